/-! ===== the class: who runs ===== -/
theorem and_two (x i : Nat) : x &&& 2 ^ i = if x.testBit i = true then 2 ^ i else 0 := by
  apply Nat.eq_of_testBit_eq
  intro j
  rw [Nat.testBit_and, Nat.testBit_two_pow]
  by_cases h : i = j
  · subst h
    cases hx : x.testBit i with
    | true => simp [Nat.testBit_two_pow_self]
    | false => simp
  · cases hx : x.testBit i with
    | true => simp [h, Nat.testBit_two_pow]
    | false => simp [h]
section KRN
variable {E : Nat × Nat × Nat} {S : xSh} {V V' W : xV} {Q : Option Value → xSh → xV → Prop} {mb c : Nat} {σ : Nat → Nat}
theorem k_lent (hS : kShape S mb) (hK : kN V mb σ) (hw : wf σ) (hf : ∀ i, i < 8 → V (mb + 3) i = nI (pfar σ i)) (hc : c < 8) : xC E mX2_lentPriority [.ref mb, .int (nI c), .ref (mb + 3)] S V Q ↔ Q (some (.int (nI (plent σ c)))) S V := by
  have hS' := hS; obtain ⟨mk0, mr0, mr1, mr2, mk1, mn1, mk2, mn2, mk3, mn3, mcs⟩ := hS'; have hb := wf_b hw
  obtain ⟨mrc, hcs⟩ := mcs c hc
  have dk0 := hcs.1
  have d8 := (hK.1 c hc).2.2.2.2.1
  have loop : ∀ k i, i + k = 8 → (xX E mX2_lentPriority 13 [some (.ref mb), some (.int (nI c)), some (.ref (mb + 3)), some (.int (nI (plentN σ (pfar σ) c i))), some (.int (nI i))] [] S V Q ↔ Q (some (.int (nI (plent σ c)))) S V) := by
    intro k
    induction k with
    | zero =>
      intro i hn
      have hi : i = 8 := by omega
      subst hi
      simp (disch := (first | assumption | exact xnl_i _ | exact xnl_r _ | exact xnl_n | exact Bool.toNat_lt _ | exact hb _ | exact hb2 _ | omega | exact Nat.le_of_ble_eq_true rfl | rfl | decide)) only [pX2_lentPriority_0, pX2_lentPriority_1, pX2_lentPriority_4, pX2_lentPriority_5, pX2_lentPriority_6, pX2_lentPriority_9, pX2_lentPriority_10, pX2_lentPriority_11, pX2_lentPriority_13, pX2_lentPriority_15, pX2_lentPriority_17, pX2_lentPriority_20, pX2_lentPriority_21, pX2_lentPriority_23, pX2_lentPriority_24, pX2_lentPriority_25, pX2_lentPriority_28, pX2_lentPriority_31, pX2_lentPriority_32, pX2_lentPriority_33, pX2_lentPriority_36, pX2_lentPriority_38, pX2_lentPriority_39, pX2_lentPriority_42, pX2_lentPriority_45, pX2_lentPriority_46, pX2_lentPriority_49, pX2_lentPriority_52, pX2_lentPriority_53, nI_add, pk_mul, xn_sub, xn_and, xn_or, xn_xor, xn_shl, xn_shr, xn_lt, xn_le, xn_eq, xrf_some, xup_eq, xup_ne, xrow_eq, xrow_ne, Option.toList_some, Option.toList_none, List.singleton_append, List.nil_append, List.cons_append, xnl_n, xnl_i, xnl_r, Nat.zero_add, Nat.add_zero, ↓reduceIte, Nat.reduceEqDiff, Nat.reduceLeDiff, Nat.reduceAdd, Nat.reduceMul, Nat.reduceLT, Nat.one_ne_zero, eq_self, not_true_eq_false, not_false_eq_true, and_self]
      rfl
    | succ k ih =>
      intro i hn
      have h : ¬ 8 ≤ i := by omega
      have hi8 : i < 8 := by omega
      obtain ⟨mri, his⟩ := mcs i hi8
      have ik0 := his.1
      have i8 := (hK.1 i hi8).2.2.2.2.1
      have hfi := hf i hi8
      have hb2 : pfar σ i < 2147483648 := Nat.lt_trans (pfar_lt hw i) (by decide)
      have hpl : plentN σ (pfar σ) c i < 2147483648 := by
        have : ∀ i, plentN σ (pfar σ) c i < 2147483648 := by
          intro i
          induction i with
          | zero => exact hb _
          | succ n ihn => unfold plentN; split; exact hb _; exact ihn
        exact this i
      have ih2 := ih (i + 1) (by omega)
      rw [pX2_lentPriority_13]
      cases hq : (pfar σ i).testBit c with
      | true =>
        have e : plentN σ (pfar σ) c (i + 1) = if plentN σ (pfar σ) c i < σ (62 * i + 3) then σ (62 * i + 3) else plentN σ (pfar σ) c i := by
          rw [plentN]; simp [hq]
        rw [e] at ih2
        simp (disch := (first | assumption | exact xnl_i _ | exact xnl_r _ | exact xnl_n | exact Bool.toNat_lt _ | exact hb _ | exact hb2 _ | omega | exact Nat.le_of_ble_eq_true rfl | rfl | decide)) only [pX2_lentPriority_0, pX2_lentPriority_1, pX2_lentPriority_4, pX2_lentPriority_5, pX2_lentPriority_6, pX2_lentPriority_9, pX2_lentPriority_10, pX2_lentPriority_11, pX2_lentPriority_15, pX2_lentPriority_17, pX2_lentPriority_20, pX2_lentPriority_21, pX2_lentPriority_23, pX2_lentPriority_24, pX2_lentPriority_25, pX2_lentPriority_28, pX2_lentPriority_31, pX2_lentPriority_32, pX2_lentPriority_33, pX2_lentPriority_36, pX2_lentPriority_38, pX2_lentPriority_39, pX2_lentPriority_42, pX2_lentPriority_45, pX2_lentPriority_46, pX2_lentPriority_49, pX2_lentPriority_52, pX2_lentPriority_53, nI_add, pk_mul, xn_and, xn_or, xn_xor, xn_shl, xn_shr, xn_lt, xn_le, xn_eq, xrf_some, xup_eq, xup_ne, xrow_eq, xrow_ne, Option.toList_some, Option.toList_none, List.singleton_append, List.nil_append, List.cons_append, xnl_n, xnl_i, xnl_r, Nat.zero_add, Nat.add_zero, ↓reduceIte, Nat.reduceEqDiff, Nat.reduceLeDiff, Nat.reduceAdd, Nat.reduceMul, Nat.reduceLT, Nat.one_ne_zero, eq_self, not_true_eq_false, not_false_eq_true, and_self, mk0, mr0, mr1, mr2, h, hfi, s_has, hq, Bool.toNat_true, mri, ik0, i8]
        by_cases hlt : plentN σ (pfar σ) c i < σ (62 * i + 3)
        · rw [if_pos hlt] at ih2; simp only [hlt, if_true]; exact ih2
        · rw [if_neg hlt] at ih2; simp only [hlt, if_false]; exact ih2
      | false =>
        have e : plentN σ (pfar σ) c (i + 1) = plentN σ (pfar σ) c i := by rw [plentN]; simp [hq]
        rw [e] at ih2
        simp (disch := (first | assumption | exact xnl_i _ | exact xnl_r _ | exact xnl_n | exact Bool.toNat_lt _ | exact hb _ | exact hb2 _ | omega | exact Nat.le_of_ble_eq_true rfl | rfl | decide)) only [pX2_lentPriority_0, pX2_lentPriority_1, pX2_lentPriority_4, pX2_lentPriority_5, pX2_lentPriority_6, pX2_lentPriority_9, pX2_lentPriority_10, pX2_lentPriority_11, pX2_lentPriority_15, pX2_lentPriority_17, pX2_lentPriority_20, pX2_lentPriority_21, pX2_lentPriority_23, pX2_lentPriority_24, pX2_lentPriority_25, pX2_lentPriority_28, pX2_lentPriority_31, pX2_lentPriority_32, pX2_lentPriority_33, pX2_lentPriority_36, pX2_lentPriority_38, pX2_lentPriority_39, pX2_lentPriority_42, pX2_lentPriority_45, pX2_lentPriority_46, pX2_lentPriority_49, pX2_lentPriority_52, pX2_lentPriority_53, nI_add, pk_mul, xn_sub, xn_and, xn_or, xn_xor, xn_shl, xn_shr, xn_lt, xn_le, xn_eq, xrf_some, xup_eq, xup_ne, xrow_eq, xrow_ne, Option.toList_some, Option.toList_none, List.singleton_append, List.nil_append, List.cons_append, xnl_n, xnl_i, xnl_r, Nat.zero_add, Nat.add_zero, ↓reduceIte, Nat.reduceEqDiff, Nat.reduceLeDiff, Nat.reduceAdd, Nat.reduceMul, Nat.reduceLT, Nat.one_ne_zero, eq_self, not_true_eq_false, not_false_eq_true, and_self, mk0, mr0, mr1, mr2, h, hfi, s_has, hq, Bool.toNat_false]
        exact ih2
  show xX E mX2_lentPriority 0 [some (.ref mb), some (.int (nI c)), some (.ref (mb + 3)), none, none] [] S V Q ↔ _
  simp (disch := (first | assumption | exact xnl_i _ | exact xnl_r _ | exact xnl_n | exact Bool.toNat_lt _ | exact hb _ | exact hb2 _ | omega | exact Nat.le_of_ble_eq_true rfl | rfl | decide)) only [pX2_lentPriority_0, pX2_lentPriority_1, pX2_lentPriority_4, pX2_lentPriority_5, pX2_lentPriority_6, pX2_lentPriority_9, pX2_lentPriority_10, pX2_lentPriority_11, nI_add, pk_mul, xn_sub, xn_and, xn_or, xn_xor, xn_shl, xn_shr, xn_lt, xn_le, xn_eq, xrf_some, xup_eq, xup_ne, xrow_eq, xrow_ne, Option.toList_some, Option.toList_none, List.singleton_append, List.nil_append, List.cons_append, xnl_n, xnl_i, xnl_r, Nat.zero_add, Nat.add_zero, ↓reduceIte, Nat.reduceEqDiff, Nat.reduceLeDiff, Nat.reduceAdd, Nat.reduceMul, Nat.reduceLT, Nat.one_ne_zero, eq_self, not_true_eq_false, not_false_eq_true, and_self, mk0, mr0, mr1, mr2, mrc, dk0, d8]
  exact loop 8 0 rfl
theorem k_ringSet (hS : kShape S mb) (hK : kN V mb σ) (hw : wf σ) : xC E mX2_ringSet [.ref mb] S V Q ↔ Q (some (.int (nI (prings σ)))) S (klay V mb 8 (pfar σ)) := by
  have hS' := hS; obtain ⟨mk0, mr0, mr1, mr2, mk1, mn1, mk2, mn2, mk3, mn3, mcs⟩ := hS'; have hb := wf_b hw
  have loop : ∀ k i, i + k = 8 → (xX E mX2_ringSet 9 [some (.ref mb), some (.ref (mb + 3)), some (.int (nI (bm (fun c => (pfar σ c).testBit c) i))), some (.int (nI i))] [] S (klay V mb 8 (pfar σ)) Q ↔ Q (some (.int (nI (prings σ)))) S (klay V mb 8 (pfar σ))) := by
    intro k
    induction k with
    | zero =>
      intro i hn
      have hi : i = 8 := by omega
      subst hi
      simp (disch := (first | assumption | exact xnl_i _ | exact xnl_r _ | exact xnl_n | exact Bool.toNat_lt _ | exact hb _ | exact hb2 _ | omega | exact Nat.le_of_ble_eq_true rfl | rfl | decide)) only [pX2_ringSet_0, pX2_ringSet_1, pX2_ringSet_4, pX2_ringSet_5, pX2_ringSet_6, pX2_ringSet_7, pX2_ringSet_8, pX2_ringSet_9, pX2_ringSet_10, pX2_ringSet_12, pX2_ringSet_15, pX2_ringSet_16, pX2_ringSet_17, pX2_ringSet_18, pX2_ringSet_19, pX2_ringSet_20, pX2_ringSet_21, pX2_ringSet_22, pX2_ringSet_23, pX2_ringSet_24, pX2_ringSet_25, pX2_ringSet_28, pX2_ringSet_31, pX2_ringSet_32, nI_add, pk_mul, xn_sub, xn_and, xn_or, xn_xor, xn_shl, xn_shr, xn_lt, xn_le, xn_eq, xrf_some, xup_eq, xup_ne, xrow_eq, xrow_ne, Option.toList_some, Option.toList_none, List.singleton_append, List.nil_append, List.cons_append, xnl_n, xnl_i, xnl_r, Nat.zero_add, Nat.add_zero, ↓reduceIte, Nat.reduceEqDiff, Nat.reduceLeDiff, Nat.reduceAdd, Nat.reduceMul, Nat.reduceLT, Nat.one_ne_zero, eq_self, not_true_eq_false, not_false_eq_true, and_self]
      rfl
    | succ k ih =>
      intro i hn
      have h : ¬ 8 ≤ i := by omega
      have hi8 : i < 8 := by omega
      have h231 : 1 * 2 ^ i < 4294967296 := by
        have : 2 ^ i ≤ 2 ^ 8 := Nat.pow_le_pow_right (by decide) (by omega)
        omega
      have ih2 := ih (i + 1) (by omega)
      rw [bm_s] at ih2
      rw [pX2_ringSet_9]
      simp (disch := (first | assumption | exact xnl_i _ | exact xnl_r _ | exact xnl_n | exact Bool.toNat_lt _ | exact hb _ | exact hb2 _ | omega | exact Nat.le_of_ble_eq_true rfl | rfl | decide)) only [pX2_ringSet_0, pX2_ringSet_1, pX2_ringSet_4, pX2_ringSet_5, pX2_ringSet_6, pX2_ringSet_7, pX2_ringSet_8, pX2_ringSet_10, pX2_ringSet_12, pX2_ringSet_15, pX2_ringSet_16, pX2_ringSet_17, pX2_ringSet_18, pX2_ringSet_19, pX2_ringSet_20, pX2_ringSet_21, pX2_ringSet_22, pX2_ringSet_23, pX2_ringSet_24, pX2_ringSet_25, pX2_ringSet_28, pX2_ringSet_31, pX2_ringSet_32, nI_add, pk_mul, xn_sub, xn_and, xn_or, xn_xor, xn_shl, xn_shr, xn_lt, xn_le, xn_eq, xrf_some, xup_eq, xup_ne, xrow_eq, xrow_ne, Option.toList_some, Option.toList_none, List.singleton_append, List.nil_append, List.cons_append, xnl_n, xnl_i, xnl_r, Nat.zero_add, Nat.add_zero, ↓reduceIte, Nat.reduceEqDiff, Nat.reduceLeDiff, Nat.reduceAdd, Nat.reduceMul, Nat.reduceLT, Nat.one_ne_zero, eq_self, not_true_eq_false, not_false_eq_true, and_self, h, klay_in, Nat.one_mul, and_two]
      exact ih2
  show xX E mX2_ringSet 0 [some (.ref mb), none, none, none] [] S V Q ↔ _
  simp (disch := (first | assumption | exact xnl_i _ | exact xnl_r _ | exact xnl_n | exact Bool.toNat_lt _ | exact hb _ | exact hb2 _ | omega | exact Nat.le_of_ble_eq_true rfl | rfl | decide)) only [pX2_ringSet_0, pX2_ringSet_1, pX2_ringSet_4, pX2_ringSet_5, pX2_ringSet_6, pX2_ringSet_7, pX2_ringSet_8, nI_add, pk_mul, xn_sub, xn_and, xn_or, xn_xor, xn_shl, xn_shr, xn_lt, xn_le, xn_eq, xrf_some, xup_eq, xup_ne, xrow_eq, xrow_ne, Option.toList_some, Option.toList_none, List.singleton_append, List.nil_append, List.cons_append, xnl_n, xnl_i, xnl_r, Nat.zero_add, Nat.add_zero, ↓reduceIte, Nat.reduceEqDiff, Nat.reduceLeDiff, Nat.reduceAdd, Nat.reduceMul, Nat.reduceLT, Nat.one_ne_zero, eq_self, not_true_eq_false, not_false_eq_true, and_self, mk0, mr0, mr1, mr2, k_findAllWaits hS hK hw]
  exact loop 8 0 rfl
theorem k_runner (hS : kShape S mb) (hK : kN V mb σ) (hw : wf σ) {own : Nat} (ho : own < 8) : ∃ V', kN V' mb σ ∧ (∀ a, ¬ a = mb + 3 → V' a = V a) ∧ ∀ Q : Option Value → xSh → xV → Prop, xC E mX2_runnerInSlotOf [.ref mb, .int (nI own)] S V Q ↔ Q (some (.int (rv (prunner σ own)))) S V' := by
  have hS' := hS; obtain ⟨mk0, mr0, mr1, mr2, mk1, mn1, mk2, mn2, mk3, mn3, mcs⟩ := hS'; have hb := wf_b hw
  have hp1 : pin σ 1 < 2147483648 := bm_lt8 _
  have hpb := pin_bit σ 1
  by_cases h0 : pin σ 1 = 0
  · have hno : ∀ d, d < 8 → ¬ pst σ d = 1 := fun d hd => by
      have := (bm_0 (n := 8)).mp h0 d hd
      simpa using this
    have e : prunner σ own = none := by
      cases hr : prunner σ own with
      | none => rfl
      | some d => obtain ⟨h1, h2⟩ := prunner_1 ho hr; exact absurd h2 (hno d h1)
    refine ⟨V, hK, fun _ _ => rfl, fun Q => ?_⟩
    rw [e]
    show xX E mX2_runnerInSlotOf 0 [some (.ref mb), some (.int (nI own)), none, none, none, none, none, none, none] [] S V Q ↔ _
    simp (disch := (first | assumption | exact xnl_i _ | exact xnl_r _ | exact xnl_n | exact Bool.toNat_lt _ | exact hb _ | exact hb2 _ | omega | exact Nat.le_of_ble_eq_true rfl | rfl | decide)) only [pX2_runnerInSlotOf_0, pX2_runnerInSlotOf_1, pX2_runnerInSlotOf_2, pX2_runnerInSlotOf_5, pX2_runnerInSlotOf_6, pX2_runnerInSlotOf_7, pX2_runnerInSlotOf_10, pX2_runnerInSlotOf_11, pX2_runnerInSlotOf_12, pX2_runnerInSlotOf_15, pX2_runnerInSlotOf_18, pX2_runnerInSlotOf_19, pX2_runnerInSlotOf_22, pX2_runnerInSlotOf_24, pX2_runnerInSlotOf_27, pX2_runnerInSlotOf_28, nI_add, pk_mul, xn_sub, xn_and, xn_or, xn_xor, xn_shl, xn_shr, xn_lt, xn_le, xn_eq, xrf_some, xup_eq, xup_ne, xrow_eq, xrow_ne, Option.toList_some, Option.toList_none, List.singleton_append, List.nil_append, List.cons_append, xnl_n, xnl_i, xnl_r, Nat.zero_add, Nat.add_zero, ↓reduceIte, Nat.reduceEqDiff, Nat.reduceLeDiff, Nat.reduceAdd, Nat.reduceMul, Nat.reduceLT, Nat.one_ne_zero, eq_self, not_true_eq_false, not_false_eq_true, and_self, mk0, mr0, mr1, mr2, k_setIn hS hK hw, h0, rv]
  · by_cases h1 : pst σ own = 1
    · have hb1 : (pin σ 1).testBit own = true := by rw [hpb]; simp [ho, h1]
      have e : prunner σ own = some own := by unfold prunner; rw [if_pos h1]
      refine ⟨V, hK, fun _ _ => rfl, fun Q => ?_⟩
      rw [e]
      show xX E mX2_runnerInSlotOf 0 [some (.ref mb), some (.int (nI own)), none, none, none, none, none, none, none] [] S V Q ↔ _
      simp (disch := (first | assumption | exact xnl_i _ | exact xnl_r _ | exact xnl_n | exact Bool.toNat_lt _ | exact hb _ | exact hb2 _ | omega | exact Nat.le_of_ble_eq_true rfl | rfl | decide)) only [pX2_runnerInSlotOf_0, pX2_runnerInSlotOf_1, pX2_runnerInSlotOf_2, pX2_runnerInSlotOf_5, pX2_runnerInSlotOf_6, pX2_runnerInSlotOf_7, pX2_runnerInSlotOf_10, pX2_runnerInSlotOf_11, pX2_runnerInSlotOf_12, pX2_runnerInSlotOf_15, pX2_runnerInSlotOf_18, pX2_runnerInSlotOf_19, pX2_runnerInSlotOf_22, pX2_runnerInSlotOf_24, pX2_runnerInSlotOf_27, pX2_runnerInSlotOf_28, nI_add, pk_mul, xn_sub, xn_and, xn_or, xn_xor, xn_shl, xn_shr, xn_lt, xn_le, xn_eq, xrf_some, xup_eq, xup_ne, xrow_eq, xrow_ne, Option.toList_some, Option.toList_none, List.singleton_append, List.nil_append, List.cons_append, xnl_n, xnl_i, xnl_r, Nat.zero_add, Nat.add_zero, ↓reduceIte, Nat.reduceEqDiff, Nat.reduceLeDiff, Nat.reduceAdd, Nat.reduceMul, Nat.reduceLT, Nat.one_ne_zero, eq_self, not_true_eq_false, not_false_eq_true, and_self, mk0, mr0, mr1, mr2, k_setIn hS hK hw, h0, s_has, hb1, Bool.toNat_true, rv]
    · have hb1 : (pin σ 1).testBit own = false := by rw [hpb]; simp [h1]
      have e : prunner σ own = pbest σ own 7 := by unfold prunner; rw [if_neg h1]
      rw [e]
      have hm : kN (klay V mb 8 (pfar σ)) mb σ := klay_M hK
      have hf : ∀ i, i < 8 → klay V mb 8 (pfar σ) (mb + 3) i = nI (pfar σ i) := fun i hi => klay_in hi
      have hb2 : ∀ i, plent σ i < 2147483648 := plent_lt hb
      have hgr : ∀ x : Nat, x < 2147483648 → -1 < nI x := fun x hx => by
        rw [Int32.lt_iff_toInt_lt, xn_toInt hx, show (-1 : Int32).toInt = -1 by decide]; omega
      have hgr2 : ∀ x : Nat, x < 2147483648 → ¬ nI x ≤ -1 := fun x hx z => Int32.not_le.mpr (hgr x hx) z
      refine ⟨klay V mb 8 (pfar σ), hm, fun a ha => klay_ne ha, fun Q => ?_⟩
      generalize hWd : klay V mb 8 (pfar σ) = W at hm hf
      have loop : ∀ k i l7 l8, i + k = 7 → xnl l7 = true → (xX E mX2_runnerInSlotOf 44 [some (.ref mb), some (.int (nI own)), some (.int (nI (pin σ 1))), some (.ref (mb + 3)), some (.int (rv (pbest σ own i))), some (.int (match pbest σ own i with | none => -1 | some d => nI (plent σ d))), some (.int (nI (i + 1))), l7, l8] [] S W Q ↔ Q (some (.int (rv (pbest σ own 7)))) S W) := by
        intro k
        induction k with
        | zero =>
          intro i l7 l8 hn hl7
          have hi : i = 7 := by omega
          subst hi
          simp (disch := (first | assumption | exact xnl_i _ | exact xnl_r _ | exact xnl_n | exact Bool.toNat_lt _ | exact hb _ | exact hb2 _ | omega | exact Nat.le_of_ble_eq_true rfl | rfl | decide)) only [pX2_runnerInSlotOf_0, pX2_runnerInSlotOf_1, pX2_runnerInSlotOf_2, pX2_runnerInSlotOf_5, pX2_runnerInSlotOf_6, pX2_runnerInSlotOf_7, pX2_runnerInSlotOf_10, pX2_runnerInSlotOf_11, pX2_runnerInSlotOf_12, pX2_runnerInSlotOf_15, pX2_runnerInSlotOf_18, pX2_runnerInSlotOf_19, pX2_runnerInSlotOf_22, pX2_runnerInSlotOf_24, pX2_runnerInSlotOf_27, pX2_runnerInSlotOf_28, pX2_runnerInSlotOf_29, pX2_runnerInSlotOf_30, pX2_runnerInSlotOf_33, pX2_runnerInSlotOf_34, pX2_runnerInSlotOf_36, pX2_runnerInSlotOf_38, pX2_runnerInSlotOf_39, pX2_runnerInSlotOf_41, pX2_runnerInSlotOf_42, pX2_runnerInSlotOf_44, pX2_runnerInSlotOf_46, pX2_runnerInSlotOf_48, pX2_runnerInSlotOf_51, pX2_runnerInSlotOf_52, pX2_runnerInSlotOf_54, pX2_runnerInSlotOf_55, pX2_runnerInSlotOf_57i, pX2_runnerInSlotOf_57, pX2_runnerInSlotOf_58, pX2_runnerInSlotOf_60, pX2_runnerInSlotOf_61, pX2_runnerInSlotOf_63, pX2_runnerInSlotOf_64, pX2_runnerInSlotOf_67, pX2_runnerInSlotOf_69, pX2_runnerInSlotOf_70, pX2_runnerInSlotOf_72, pX2_runnerInSlotOf_75, pX2_runnerInSlotOf_78, pX2_runnerInSlotOf_80, pX2_runnerInSlotOf_82, pX2_runnerInSlotOf_85, pX2_runnerInSlotOf_87, pX2_runnerInSlotOf_89, pX2_runnerInSlotOf_91, pX2_runnerInSlotOf_93, pX2_runnerInSlotOf_96, pX2_runnerInSlotOf_99, pX2_runnerInSlotOf_101, nI_add, pk_mul, xn_sub, xn_and, xn_or, xn_xor, xn_shl, xn_shr, xn_lt, xn_le, xn_eq, xrf_some, xup_eq, xup_ne, xrow_eq, xrow_ne, Option.toList_some, Option.toList_none, List.singleton_append, List.nil_append, List.cons_append, xnl_n, xnl_i, xnl_r, Nat.zero_add, Nat.add_zero, ↓reduceIte, Nat.reduceEqDiff, Nat.reduceLeDiff, Nat.reduceAdd, Nat.reduceMul, Nat.reduceLT, Nat.one_ne_zero, eq_self, not_true_eq_false, not_false_eq_true, and_self]
        | succ k ih =>
          intro i l7 l8 hn hl7
          have h : ¬ 8 ≤ i + 1 := by omega
          have hm8 : (own + (i + 1)) % 8 < 8 := Nat.mod_lt _ (by decide)
          have ih2 := fun l7 l8 hl7 => ih (i + 1) l7 l8 (by omega) hl7
          rw [pX2_runnerInSlotOf_44]
          unfold pbest at ih2
          generalize hd : (own + (i + 1)) % 8 = d at hm8 ih2
          have hbd := hb2 d
          have hpd := hpb d
          by_cases h1 : pst σ d = 1
          · have hpd : (pin σ 1).testBit d = true := by rw [hpd]; simp [hm8, h1]
            cases hp : pbest σ own i with
            | none =>
              rw [hp, if_pos ⟨h1, fun b hb => by cases hb⟩] at ih2
              have hg2 := hgr2 _ hbd
              simp (disch := (first | assumption | exact xnl_i _ | exact xnl_r _ | exact xnl_n | exact Bool.toNat_lt _ | exact hb _ | exact hb2 _ | omega | exact Nat.le_of_ble_eq_true rfl | rfl | decide)) only [pX2_runnerInSlotOf_0, pX2_runnerInSlotOf_1, pX2_runnerInSlotOf_2, pX2_runnerInSlotOf_5, pX2_runnerInSlotOf_6, pX2_runnerInSlotOf_7, pX2_runnerInSlotOf_10, pX2_runnerInSlotOf_11, pX2_runnerInSlotOf_12, pX2_runnerInSlotOf_15, pX2_runnerInSlotOf_18, pX2_runnerInSlotOf_19, pX2_runnerInSlotOf_22, pX2_runnerInSlotOf_24, pX2_runnerInSlotOf_27, pX2_runnerInSlotOf_28, pX2_runnerInSlotOf_29, pX2_runnerInSlotOf_30, pX2_runnerInSlotOf_33, pX2_runnerInSlotOf_34, pX2_runnerInSlotOf_36, pX2_runnerInSlotOf_38, pX2_runnerInSlotOf_39, pX2_runnerInSlotOf_41, pX2_runnerInSlotOf_42, pX2_runnerInSlotOf_46, pX2_runnerInSlotOf_48, pX2_runnerInSlotOf_51, pX2_runnerInSlotOf_52, pX2_runnerInSlotOf_54, pX2_runnerInSlotOf_55, pX2_runnerInSlotOf_57i, pX2_runnerInSlotOf_57, pX2_runnerInSlotOf_58, pX2_runnerInSlotOf_60, pX2_runnerInSlotOf_61, pX2_runnerInSlotOf_63, pX2_runnerInSlotOf_64, pX2_runnerInSlotOf_67, pX2_runnerInSlotOf_69, pX2_runnerInSlotOf_70, pX2_runnerInSlotOf_72, pX2_runnerInSlotOf_75, pX2_runnerInSlotOf_78, pX2_runnerInSlotOf_80, pX2_runnerInSlotOf_82, pX2_runnerInSlotOf_85, pX2_runnerInSlotOf_87, pX2_runnerInSlotOf_89, pX2_runnerInSlotOf_91, pX2_runnerInSlotOf_93, pX2_runnerInSlotOf_96, pX2_runnerInSlotOf_99, pX2_runnerInSlotOf_101, nI_add, pk_mul, xn_sub, xn_and, xn_or, xn_xor, xn_shl, xn_shr, xn_lt, xn_le, xn_eq, xrf_some, xup_eq, xup_ne, xrow_eq, xrow_ne, Option.toList_some, Option.toList_none, List.singleton_append, List.nil_append, List.cons_append, xnl_n, xnl_i, xnl_r, Nat.zero_add, Nat.add_zero, ↓reduceIte, Nat.reduceEqDiff, Nat.reduceLeDiff, Nat.reduceAdd, Nat.reduceMul, Nat.reduceLT, Nat.one_ne_zero, eq_self, not_true_eq_false, not_false_eq_true, and_self, mk0, mr0, mr1, mr2, h, xn_rem, hd, k_lent hS hm hw hf, s_has, hpd, Bool.toNat_true, rv, hg2]
              exact ih2 _ _ rfl
            | some b =>
              have hbb := hb2 b
              rw [hp] at ih2
              by_cases h2 : plent σ b < plent σ d
              · have h2' : ¬ plent σ d ≤ plent σ b := by omega
                rw [if_pos ⟨h1, fun b' hb' => by cases hb'; exact h2⟩] at ih2
                simp (disch := (first | assumption | exact xnl_i _ | exact xnl_r _ | exact xnl_n | exact Bool.toNat_lt _ | exact hb _ | exact hb2 _ | omega | exact Nat.le_of_ble_eq_true rfl | rfl | decide)) only [pX2_runnerInSlotOf_0, pX2_runnerInSlotOf_1, pX2_runnerInSlotOf_2, pX2_runnerInSlotOf_5, pX2_runnerInSlotOf_6, pX2_runnerInSlotOf_7, pX2_runnerInSlotOf_10, pX2_runnerInSlotOf_11, pX2_runnerInSlotOf_12, pX2_runnerInSlotOf_15, pX2_runnerInSlotOf_18, pX2_runnerInSlotOf_19, pX2_runnerInSlotOf_22, pX2_runnerInSlotOf_24, pX2_runnerInSlotOf_27, pX2_runnerInSlotOf_28, pX2_runnerInSlotOf_29, pX2_runnerInSlotOf_30, pX2_runnerInSlotOf_33, pX2_runnerInSlotOf_34, pX2_runnerInSlotOf_36, pX2_runnerInSlotOf_38, pX2_runnerInSlotOf_39, pX2_runnerInSlotOf_41, pX2_runnerInSlotOf_42, pX2_runnerInSlotOf_46, pX2_runnerInSlotOf_48, pX2_runnerInSlotOf_51, pX2_runnerInSlotOf_52, pX2_runnerInSlotOf_54, pX2_runnerInSlotOf_55, pX2_runnerInSlotOf_57i, pX2_runnerInSlotOf_57, pX2_runnerInSlotOf_58, pX2_runnerInSlotOf_60, pX2_runnerInSlotOf_61, pX2_runnerInSlotOf_63, pX2_runnerInSlotOf_64, pX2_runnerInSlotOf_67, pX2_runnerInSlotOf_69, pX2_runnerInSlotOf_70, pX2_runnerInSlotOf_72, pX2_runnerInSlotOf_75, pX2_runnerInSlotOf_78, pX2_runnerInSlotOf_80, pX2_runnerInSlotOf_82, pX2_runnerInSlotOf_85, pX2_runnerInSlotOf_87, pX2_runnerInSlotOf_89, pX2_runnerInSlotOf_91, pX2_runnerInSlotOf_93, pX2_runnerInSlotOf_96, pX2_runnerInSlotOf_99, pX2_runnerInSlotOf_101, nI_add, pk_mul, xn_sub, xn_and, xn_or, xn_xor, xn_shl, xn_shr, xn_lt, xn_le, xn_eq, xrf_some, xup_eq, xup_ne, xrow_eq, xrow_ne, Option.toList_some, Option.toList_none, List.singleton_append, List.nil_append, List.cons_append, xnl_n, xnl_i, xnl_r, Nat.zero_add, Nat.add_zero, ↓reduceIte, Nat.reduceEqDiff, Nat.reduceLeDiff, Nat.reduceAdd, Nat.reduceMul, Nat.reduceLT, Nat.one_ne_zero, eq_self, not_true_eq_false, not_false_eq_true, and_self, mk0, mr0, mr1, mr2, h, xn_rem, hd, k_lent hS hm hw hf, s_has, hpd, Bool.toNat_true, rv, h2']
                exact ih2 _ _ rfl
              · have h2' : plent σ d ≤ plent σ b := by omega
                rw [if_neg (fun z => h2 (z.2 b rfl))] at ih2
                simp (disch := (first | assumption | exact xnl_i _ | exact xnl_r _ | exact xnl_n | exact Bool.toNat_lt _ | exact hb _ | exact hb2 _ | omega | exact Nat.le_of_ble_eq_true rfl | rfl | decide)) only [pX2_runnerInSlotOf_0, pX2_runnerInSlotOf_1, pX2_runnerInSlotOf_2, pX2_runnerInSlotOf_5, pX2_runnerInSlotOf_6, pX2_runnerInSlotOf_7, pX2_runnerInSlotOf_10, pX2_runnerInSlotOf_11, pX2_runnerInSlotOf_12, pX2_runnerInSlotOf_15, pX2_runnerInSlotOf_18, pX2_runnerInSlotOf_19, pX2_runnerInSlotOf_22, pX2_runnerInSlotOf_24, pX2_runnerInSlotOf_27, pX2_runnerInSlotOf_28, pX2_runnerInSlotOf_29, pX2_runnerInSlotOf_30, pX2_runnerInSlotOf_33, pX2_runnerInSlotOf_34, pX2_runnerInSlotOf_36, pX2_runnerInSlotOf_38, pX2_runnerInSlotOf_39, pX2_runnerInSlotOf_41, pX2_runnerInSlotOf_42, pX2_runnerInSlotOf_46, pX2_runnerInSlotOf_48, pX2_runnerInSlotOf_51, pX2_runnerInSlotOf_52, pX2_runnerInSlotOf_54, pX2_runnerInSlotOf_55, pX2_runnerInSlotOf_57i, pX2_runnerInSlotOf_57, pX2_runnerInSlotOf_58, pX2_runnerInSlotOf_60, pX2_runnerInSlotOf_61, pX2_runnerInSlotOf_63, pX2_runnerInSlotOf_64, pX2_runnerInSlotOf_67, pX2_runnerInSlotOf_69, pX2_runnerInSlotOf_70, pX2_runnerInSlotOf_72, pX2_runnerInSlotOf_75, pX2_runnerInSlotOf_78, pX2_runnerInSlotOf_80, pX2_runnerInSlotOf_82, pX2_runnerInSlotOf_85, pX2_runnerInSlotOf_87, pX2_runnerInSlotOf_89, pX2_runnerInSlotOf_91, pX2_runnerInSlotOf_93, pX2_runnerInSlotOf_96, pX2_runnerInSlotOf_99, pX2_runnerInSlotOf_101, nI_add, pk_mul, xn_sub, xn_and, xn_or, xn_xor, xn_shl, xn_shr, xn_lt, xn_le, xn_eq, xrf_some, xup_eq, xup_ne, xrow_eq, xrow_ne, Option.toList_some, Option.toList_none, List.singleton_append, List.nil_append, List.cons_append, xnl_n, xnl_i, xnl_r, Nat.zero_add, Nat.add_zero, ↓reduceIte, Nat.reduceEqDiff, Nat.reduceLeDiff, Nat.reduceAdd, Nat.reduceMul, Nat.reduceLT, Nat.one_ne_zero, eq_self, not_true_eq_false, not_false_eq_true, and_self, mk0, mr0, mr1, mr2, h, xn_rem, hd, k_lent hS hm hw hf, s_has, hpd, Bool.toNat_true, rv, h2']
                exact ih2 _ _ rfl
          · have hpd : (pin σ 1).testBit d = false := by rw [hpd]; simp [h1]
            rw [if_neg (fun z => h1 z.1)] at ih2
            simp (disch := (first | assumption | exact xnl_i _ | exact xnl_r _ | exact xnl_n | exact Bool.toNat_lt _ | exact hb _ | exact hb2 _ | omega | exact Nat.le_of_ble_eq_true rfl | rfl | decide)) only [pX2_runnerInSlotOf_0, pX2_runnerInSlotOf_1, pX2_runnerInSlotOf_2, pX2_runnerInSlotOf_5, pX2_runnerInSlotOf_6, pX2_runnerInSlotOf_7, pX2_runnerInSlotOf_10, pX2_runnerInSlotOf_11, pX2_runnerInSlotOf_12, pX2_runnerInSlotOf_15, pX2_runnerInSlotOf_18, pX2_runnerInSlotOf_19, pX2_runnerInSlotOf_22, pX2_runnerInSlotOf_24, pX2_runnerInSlotOf_27, pX2_runnerInSlotOf_28, pX2_runnerInSlotOf_29, pX2_runnerInSlotOf_30, pX2_runnerInSlotOf_33, pX2_runnerInSlotOf_34, pX2_runnerInSlotOf_36, pX2_runnerInSlotOf_38, pX2_runnerInSlotOf_39, pX2_runnerInSlotOf_41, pX2_runnerInSlotOf_42, pX2_runnerInSlotOf_46, pX2_runnerInSlotOf_48, pX2_runnerInSlotOf_51, pX2_runnerInSlotOf_52, pX2_runnerInSlotOf_54, pX2_runnerInSlotOf_55, pX2_runnerInSlotOf_57i, pX2_runnerInSlotOf_57, pX2_runnerInSlotOf_58, pX2_runnerInSlotOf_60, pX2_runnerInSlotOf_61, pX2_runnerInSlotOf_63, pX2_runnerInSlotOf_64, pX2_runnerInSlotOf_67, pX2_runnerInSlotOf_69, pX2_runnerInSlotOf_70, pX2_runnerInSlotOf_72, pX2_runnerInSlotOf_75, pX2_runnerInSlotOf_78, pX2_runnerInSlotOf_80, pX2_runnerInSlotOf_82, pX2_runnerInSlotOf_85, pX2_runnerInSlotOf_87, pX2_runnerInSlotOf_89, pX2_runnerInSlotOf_91, pX2_runnerInSlotOf_93, pX2_runnerInSlotOf_96, pX2_runnerInSlotOf_99, pX2_runnerInSlotOf_101, nI_add, pk_mul, xn_sub, xn_and, xn_or, xn_xor, xn_shl, xn_shr, xn_lt, xn_le, xn_eq, xrf_some, xup_eq, xup_ne, xrow_eq, xrow_ne, Option.toList_some, Option.toList_none, List.singleton_append, List.nil_append, List.cons_append, xnl_n, xnl_i, xnl_r, Nat.zero_add, Nat.add_zero, ↓reduceIte, Nat.reduceEqDiff, Nat.reduceLeDiff, Nat.reduceAdd, Nat.reduceMul, Nat.reduceLT, Nat.one_ne_zero, eq_self, not_true_eq_false, not_false_eq_true, and_self, mk0, mr0, mr1, mr2, h, xn_rem, hd, k_lent hS hm hw hf, s_has, hpd, Bool.toNat_false]
            exact ih2 _ _ rfl
      have hfa := fun Q : Option Value → xSh → xV → Prop => k_findAllWaits (E := E) (Q := Q) hS hK hw
      rw [hWd] at hfa
      show xX E mX2_runnerInSlotOf 0 [some (.ref mb), some (.int (nI own)), none, none, none, none, none, none, none] [] S V Q ↔ _
      simp (disch := (first | assumption | exact xnl_i _ | exact xnl_r _ | exact xnl_n | exact Bool.toNat_lt _ | exact hb _ | exact hb2 _ | omega | exact Nat.le_of_ble_eq_true rfl | rfl | decide)) only [pX2_runnerInSlotOf_0, pX2_runnerInSlotOf_1, pX2_runnerInSlotOf_2, pX2_runnerInSlotOf_5, pX2_runnerInSlotOf_6, pX2_runnerInSlotOf_7, pX2_runnerInSlotOf_10, pX2_runnerInSlotOf_11, pX2_runnerInSlotOf_12, pX2_runnerInSlotOf_15, pX2_runnerInSlotOf_18, pX2_runnerInSlotOf_19, pX2_runnerInSlotOf_22, pX2_runnerInSlotOf_24, pX2_runnerInSlotOf_27, pX2_runnerInSlotOf_28, pX2_runnerInSlotOf_29, pX2_runnerInSlotOf_30, pX2_runnerInSlotOf_33, pX2_runnerInSlotOf_34, pX2_runnerInSlotOf_36, pX2_runnerInSlotOf_38, pX2_runnerInSlotOf_39, pX2_runnerInSlotOf_41, pX2_runnerInSlotOf_42, nI_add, pk_mul, xn_sub, xn_and, xn_or, xn_xor, xn_shl, xn_shr, xn_lt, xn_le, xn_eq, xrf_some, xup_eq, xup_ne, xrow_eq, xrow_ne, Option.toList_some, Option.toList_none, List.singleton_append, List.nil_append, List.cons_append, xnl_n, xnl_i, xnl_r, Nat.zero_add, Nat.add_zero, ↓reduceIte, Nat.reduceEqDiff, Nat.reduceLeDiff, Nat.reduceAdd, Nat.reduceMul, Nat.reduceLT, Nat.one_ne_zero, eq_self, not_true_eq_false, not_false_eq_true, and_self, mk0, mr0, mr1, mr2, k_setIn hS hK hw, h0, s_has, hb1, Bool.toNat_false, hfa]
      exact loop 7 0 none none rfl rfl
end KRN

