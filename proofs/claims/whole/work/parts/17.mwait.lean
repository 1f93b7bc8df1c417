/-! ===== the reference: who waits for whom, further on; lent priorities ===== -/
section MWT
variable {E : Nat × Nat × Nat} {S : xSh} {V : xV} {Q : Option Value → xSh → xV → Prop} {t : Nat} {σ : Nat → Nat}
theorem psends_lim {σ : Nat → Nat} {c to n k : Nat} (h : σ (62 * c + 1) + n + k = σ (62 * c)) : psends σ c to = psend σ c to (σ (62 * c + 1)) (n + k) := by
  unfold psends
  rw [show σ (62 * c) - σ (62 * c + 1) = n + k by omega]
theorem s_sendsTo (hS : mShape S t) (hσ : mV V t σ) (hw : wf σ) {c to : Nat} (hc : c < 8) (hto : to < 8) : xC E mX5_sendsTo [.ref t, .int (nI c), .int (nI to)] S V Q ↔ Q (some (.int (nI (psends σ c to).toNat))) S V := by
  have hS' := hS
  obtain ⟨k0, r1, r2, r3, r5, r6, r7, r9, r10, r14, k1, n1, k2, n2, k3, n3, k4, n4, k5, n5, k6, n6, k7, n7, k8, n8, k9, n9⟩ := hS'
  have hb := wf_b hw
  have hv : ∀ i, V (t + 1) i = nI (σ i) := hσ
  obtain ⟨w1, w2, w3, w4, w5, w6, w7, w8, w9⟩ := hw.2.1 c hc
  have loop : ∀ k n, σ (62 * c + 1) + n + k = σ (62 * c) → (xX E mX5_sendsTo 10 [some (.ref t), some (.int (nI c)), some (.int (nI to)), some (.int (nI (psend σ c to (σ (62 * c + 1)) n).toNat)), some (.int (nI (σ (62 * c + 1) + n)))] [] S V Q ↔ Q (some (.int (nI (psends σ c to).toNat))) S V) := by
    intro k
    induction k with
    | zero =>
      intro n hn
      have h : σ (62 * c) ≤ σ (62 * c + 1) + n := by omega
      have hz : (psend σ c to (σ (62 * c + 1)) n).toNat < 2 := Bool.toNat_lt _
      rw [psends_lim hn]
      simp (disch := (first | assumption | exact xnl_i _ | exact xnl_r _ | exact xnl_n | exact Bool.toNat_lt _ | exact hb _ | exact hb2 _ | omega | exact Nat.le_of_ble_eq_true rfl | rfl | decide)) only [pX5_sendsTo_0, pX5_sendsTo_1, pX5_sendsTo_2, pX5_sendsTo_3, pX5_sendsTo_4, pX5_sendsTo_5, pX5_sendsTo_8, pX5_sendsTo_10, pX5_sendsTo_12, pX5_sendsTo_13, pX5_sendsTo_14, pX5_sendsTo_15, pX5_sendsTo_18, pX5_sendsTo_21, pX5_sendsTo_22, pX5_sendsTo_25, pX5_sendsTo_26, pX5_sendsTo_27, pX5_sendsTo_29, pX5_sendsTo_32, pX5_sendsTo_33, pX5_sendsTo_36, pX5_sendsTo_37, pX5_sendsTo_38, pX5_sendsTo_40, pX5_sendsTo_43, pX5_sendsTo_44, pX5_sendsTo_47, pX5_sendsTo_48, pX5_sendsTo_51, pX5_sendsTo_52, pX5_sendsTo_53, pX5_sendsTo_56, pX5_sendsTo_59, pX5_sendsTo_60, nI_add, pk_mul, xn_sub, xn_and, xn_or, xn_xor, xn_shl, xn_shr, xn_lt, xn_le, xn_eq, xrf_some, xup_eq, xup_ne, xrow_eq, xrow_ne, Option.toList_some, Option.toList_none, List.singleton_append, List.nil_append, List.cons_append, xnl_n, xnl_i, xnl_r, Nat.zero_add, Nat.add_zero, ↓reduceIte, Nat.reduceEqDiff, Nat.reduceLeDiff, Nat.reduceAdd, Nat.reduceMul, Nat.reduceLT, Nat.one_ne_zero, eq_self, not_true_eq_false, not_false_eq_true, and_self, k0, r1, r2, r3, r5, r6, r7, r9, r10, r14, s_get hS, hv, h]
    | succ k ih =>
      intro n hn
      have h : ¬ σ (62 * c) ≤ σ (62 * c + 1) + n := by omega
      obtain ⟨hok, hmk⟩ := w9 (σ (62 * c + 1) + n) (by omega)
      have hcb : pcmd σ c (σ (62 * c + 1) + n) < 2147483648 := hb _
      have hab : parg σ c (σ (62 * c + 1) + n) < 2147483648 := hb _
      have ih2 := ih (n + 1) (by omega)
      rw [pX5_sendsTo_10]
      cases hp : psend σ c to (σ (62 * c + 1)) n with
      | true =>
        have e : psend σ c to (σ (62 * c + 1)) (n + 1) = true := by unfold psend; rw [hp]; rfl
        rw [e] at ih2
        simp (disch := (first | assumption | exact xnl_i _ | exact xnl_r _ | exact xnl_n | exact Bool.toNat_lt _ | exact hb _ | exact hb2 _ | omega | exact Nat.le_of_ble_eq_true rfl | rfl | decide)) only [pX5_sendsTo_0, pX5_sendsTo_1, pX5_sendsTo_2, pX5_sendsTo_3, pX5_sendsTo_4, pX5_sendsTo_5, pX5_sendsTo_8, pX5_sendsTo_12, pX5_sendsTo_13, pX5_sendsTo_14, pX5_sendsTo_15, pX5_sendsTo_18, pX5_sendsTo_21, pX5_sendsTo_22, pX5_sendsTo_25, pX5_sendsTo_26, pX5_sendsTo_27, pX5_sendsTo_29, pX5_sendsTo_32, pX5_sendsTo_33, pX5_sendsTo_36, pX5_sendsTo_37, pX5_sendsTo_38, pX5_sendsTo_40, pX5_sendsTo_43, pX5_sendsTo_44, pX5_sendsTo_47, pX5_sendsTo_48, pX5_sendsTo_51, pX5_sendsTo_52, pX5_sendsTo_53, pX5_sendsTo_56, pX5_sendsTo_59, pX5_sendsTo_60, nI_add, pk_mul, xn_sub, xn_and, xn_or, xn_xor, xn_shl, xn_shr, xn_lt, xn_le, xn_eq, xrf_some, xup_eq, xup_ne, xrow_eq, xrow_ne, Option.toList_some, Option.toList_none, List.singleton_append, List.nil_append, List.cons_append, xnl_n, xnl_i, xnl_r, Nat.zero_add, Nat.add_zero, ↓reduceIte, Nat.reduceEqDiff, Nat.reduceLeDiff, Nat.reduceAdd, Nat.reduceMul, Nat.reduceLT, Nat.one_ne_zero, eq_self, not_true_eq_false, not_false_eq_true, and_self, k0, r1, r2, r3, r5, r6, r7, r9, r10, r14, s_get hS, hv, h, Bool.toNat_true]
        exact ih2
      | false =>
        by_cases h1 : pcmd σ c (σ (62 * c + 1) + n) = 1
        · by_cases h2 : parg σ c (σ (62 * c + 1) + n) = to
          · have e : psend σ c to (σ (62 * c + 1)) (n + 1) = true := by unfold psend; rw [hp]; simp [h1, h2]
            rw [e] at ih2
            simp (disch := (first | assumption | exact xnl_i _ | exact xnl_r _ | exact xnl_n | exact Bool.toNat_lt _ | exact hb _ | exact hb2 _ | omega | exact Nat.le_of_ble_eq_true rfl | rfl | decide)) only [pX5_sendsTo_0, pX5_sendsTo_1, pX5_sendsTo_2, pX5_sendsTo_3, pX5_sendsTo_4, pX5_sendsTo_5, pX5_sendsTo_8, pX5_sendsTo_12, pX5_sendsTo_13, pX5_sendsTo_14, pX5_sendsTo_15, pX5_sendsTo_18, pX5_sendsTo_21, pX5_sendsTo_22, pX5_sendsTo_25, pX5_sendsTo_26, pX5_sendsTo_27, pX5_sendsTo_29, pX5_sendsTo_32, pX5_sendsTo_33, pX5_sendsTo_36, pX5_sendsTo_37, pX5_sendsTo_38, pX5_sendsTo_40, pX5_sendsTo_43, pX5_sendsTo_44, pX5_sendsTo_47, pX5_sendsTo_48, pX5_sendsTo_51, pX5_sendsTo_52, pX5_sendsTo_53, pX5_sendsTo_56, pX5_sendsTo_59, pX5_sendsTo_60, nI_add, pk_mul, xn_sub, xn_and, xn_or, xn_xor, xn_shl, xn_shr, xn_lt, xn_le, xn_eq, xrf_some, xup_eq, xup_ne, xrow_eq, xrow_ne, Option.toList_some, Option.toList_none, List.singleton_append, List.nil_append, List.cons_append, xnl_n, xnl_i, xnl_r, Nat.zero_add, Nat.add_zero, ↓reduceIte, Nat.reduceEqDiff, Nat.reduceLeDiff, Nat.reduceAdd, Nat.reduceMul, Nat.reduceLT, Nat.one_ne_zero, eq_self, not_true_eq_false, not_false_eq_true, and_self, k0, r1, r2, r3, r5, r6, r7, r9, r10, r14, s_get hS, hv, h, Bool.toNat_false, s_commandOf hS hσ, s_argumentOf hS hσ, h1, h2]
            exact ih2
          · have e : psend σ c to (σ (62 * c + 1)) (n + 1) = false := by unfold psend; rw [hp]; simp [h1, h2]
            rw [e] at ih2
            simp (disch := (first | assumption | exact xnl_i _ | exact xnl_r _ | exact xnl_n | exact Bool.toNat_lt _ | exact hb _ | exact hb2 _ | omega | exact Nat.le_of_ble_eq_true rfl | rfl | decide)) only [pX5_sendsTo_0, pX5_sendsTo_1, pX5_sendsTo_2, pX5_sendsTo_3, pX5_sendsTo_4, pX5_sendsTo_5, pX5_sendsTo_8, pX5_sendsTo_12, pX5_sendsTo_13, pX5_sendsTo_14, pX5_sendsTo_15, pX5_sendsTo_18, pX5_sendsTo_21, pX5_sendsTo_22, pX5_sendsTo_25, pX5_sendsTo_26, pX5_sendsTo_27, pX5_sendsTo_29, pX5_sendsTo_32, pX5_sendsTo_33, pX5_sendsTo_36, pX5_sendsTo_37, pX5_sendsTo_38, pX5_sendsTo_40, pX5_sendsTo_43, pX5_sendsTo_44, pX5_sendsTo_47, pX5_sendsTo_48, pX5_sendsTo_51, pX5_sendsTo_52, pX5_sendsTo_53, pX5_sendsTo_56, pX5_sendsTo_59, pX5_sendsTo_60, nI_add, pk_mul, xn_sub, xn_and, xn_or, xn_xor, xn_shl, xn_shr, xn_lt, xn_le, xn_eq, xrf_some, xup_eq, xup_ne, xrow_eq, xrow_ne, Option.toList_some, Option.toList_none, List.singleton_append, List.nil_append, List.cons_append, xnl_n, xnl_i, xnl_r, Nat.zero_add, Nat.add_zero, ↓reduceIte, Nat.reduceEqDiff, Nat.reduceLeDiff, Nat.reduceAdd, Nat.reduceMul, Nat.reduceLT, Nat.one_ne_zero, eq_self, not_true_eq_false, not_false_eq_true, and_self, k0, r1, r2, r3, r5, r6, r7, r9, r10, r14, s_get hS, hv, h, Bool.toNat_false, s_commandOf hS hσ, s_argumentOf hS hσ, h1, h2]
            exact ih2
        · have e : psend σ c to (σ (62 * c + 1)) (n + 1) = false := by unfold psend; rw [hp]; simp [h1]
          rw [e] at ih2
          simp (disch := (first | assumption | exact xnl_i _ | exact xnl_r _ | exact xnl_n | exact Bool.toNat_lt _ | exact hb _ | exact hb2 _ | omega | exact Nat.le_of_ble_eq_true rfl | rfl | decide)) only [pX5_sendsTo_0, pX5_sendsTo_1, pX5_sendsTo_2, pX5_sendsTo_3, pX5_sendsTo_4, pX5_sendsTo_5, pX5_sendsTo_8, pX5_sendsTo_12, pX5_sendsTo_13, pX5_sendsTo_14, pX5_sendsTo_15, pX5_sendsTo_18, pX5_sendsTo_21, pX5_sendsTo_22, pX5_sendsTo_25, pX5_sendsTo_26, pX5_sendsTo_27, pX5_sendsTo_29, pX5_sendsTo_32, pX5_sendsTo_33, pX5_sendsTo_36, pX5_sendsTo_37, pX5_sendsTo_38, pX5_sendsTo_40, pX5_sendsTo_43, pX5_sendsTo_44, pX5_sendsTo_47, pX5_sendsTo_48, pX5_sendsTo_51, pX5_sendsTo_52, pX5_sendsTo_53, pX5_sendsTo_56, pX5_sendsTo_59, pX5_sendsTo_60, nI_add, pk_mul, xn_sub, xn_and, xn_or, xn_xor, xn_shl, xn_shr, xn_lt, xn_le, xn_eq, xrf_some, xup_eq, xup_ne, xrow_eq, xrow_ne, Option.toList_some, Option.toList_none, List.singleton_append, List.nil_append, List.cons_append, xnl_n, xnl_i, xnl_r, Nat.zero_add, Nat.add_zero, ↓reduceIte, Nat.reduceEqDiff, Nat.reduceLeDiff, Nat.reduceAdd, Nat.reduceMul, Nat.reduceLT, Nat.one_ne_zero, eq_self, not_true_eq_false, not_false_eq_true, and_self, k0, r1, r2, r3, r5, r6, r7, r9, r10, r14, s_get hS, hv, h, Bool.toNat_false, s_commandOf hS hσ, s_argumentOf hS hσ, h1]
          exact ih2
  show xX E mX5_sendsTo 0 [some (.ref t), some (.int (nI c)), some (.int (nI to)), none, none] [] S V Q ↔ _
  simp (disch := (first | assumption | exact xnl_i _ | exact xnl_r _ | exact xnl_n | exact Bool.toNat_lt _ | exact hb _ | exact hb2 _ | omega | exact Nat.le_of_ble_eq_true rfl | rfl | decide)) only [pX5_sendsTo_0, pX5_sendsTo_1, pX5_sendsTo_2, pX5_sendsTo_3, pX5_sendsTo_4, pX5_sendsTo_5, pX5_sendsTo_8, nI_add, pk_mul, xn_sub, xn_and, xn_or, xn_xor, xn_shl, xn_shr, xn_lt, xn_le, xn_eq, xrf_some, xup_eq, xup_ne, xrow_eq, xrow_ne, Option.toList_some, Option.toList_none, List.singleton_append, List.nil_append, List.cons_append, xnl_n, xnl_i, xnl_r, Nat.zero_add, Nat.add_zero, ↓reduceIte, Nat.reduceEqDiff, Nat.reduceLeDiff, Nat.reduceAdd, Nat.reduceMul, Nat.reduceLT, Nat.one_ne_zero, eq_self, not_true_eq_false, not_false_eq_true, and_self, k0, r1, r2, r3, r5, r6, r7, r9, r10, r14, s_get hS, hv]
  exact loop (σ (62 * c) - σ (62 * c + 1)) 0 (by omega)
theorem bm_s (P : Nat → Bool) (n : Nat) : bm P (n + 1) = bm P n ||| (if P n = true then 2 ^ n else 0) := rfl
theorem tb_and (f o : Nat) : (f / 2 ^ o &&& 1 = 1) ↔ f.testBit o = true := by
  rw [Nat.and_one_is_mod, Nat.testBit_eq_decide_div_mod_eq, decide_eq_true_eq]
theorem and1_lt (x : Nat) : x &&& 1 < 2147483648 := by
  rw [Nat.and_one_is_mod]; omega
theorem div_lt {a : Nat} (b : Nat) (h : a < 2147483648) : a / 2 ^ b < 2147483648 := Nat.lt_of_le_of_lt (Nat.div_le_self _ _) h
theorem s_waitsFor (hS : mShape S t) (hσ : mV V t σ) (hw : wf σ) {c : Nat} (hc : c < 8) : xC E mX5_waitsFor [.ref t, .int (nI c)] S V Q ↔ Q (some (.int (nI (pwait σ c)))) S V := by
  have hS' := hS
  obtain ⟨k0, r1, r2, r3, r5, r6, r7, r9, r10, r14, k1, n1, k2, n2, k3, n3, k4, n4, k5, n5, k6, n6, k7, n7, k8, n8, k9, n9⟩ := hS'
  have hb := wf_b hw
  have hv : ∀ i, V (t + 1) i = nI (σ i) := hσ
  obtain ⟨w1, w2, w3, w4, w5, w6, w7, w8, w9⟩ := hw.2.1 c hc
  have loop : ∀ k i n, i + k = 8 → (xX E mX5_waitsFor 60 [some (.ref t), some (.int (nI c)), some (.int (nI 4)), some (.int n), some (.int (nI (bm (fun o => decide (¬ o = c) && (decide (¬ σ (62 * o) ≤ σ (62 * o + 1)) && psends σ o c)) i))), some (.int (nI i))] [] S V Q ↔ Q (some (.int (nI (bm (fun o => decide (¬ o = c) && (decide (¬ σ (62 * o) ≤ σ (62 * o + 1)) && psends σ o c)) 8)))) S V) := by
    intro k
    induction k with
    | zero =>
      intro i n hn
      have hi : i = 8 := by omega
      subst hi
      simp (disch := (first | assumption | exact xnl_i _ | exact xnl_r _ | exact xnl_n | exact Bool.toNat_lt _ | exact hb _ | exact hb2 _ | omega | exact Nat.le_of_ble_eq_true rfl | rfl | decide)) only [pX5_waitsFor_0, pX5_waitsFor_1, pX5_waitsFor_2, pX5_waitsFor_5, pX5_waitsFor_6, pX5_waitsFor_7, pX5_waitsFor_8, pX5_waitsFor_11, pX5_waitsFor_12, pX5_waitsFor_13, pX5_waitsFor_14, pX5_waitsFor_15, pX5_waitsFor_16, pX5_waitsFor_17, pX5_waitsFor_18, pX5_waitsFor_21, pX5_waitsFor_24, pX5_waitsFor_25, pX5_waitsFor_26, pX5_waitsFor_27, pX5_waitsFor_30, pX5_waitsFor_31, pX5_waitsFor_32, pX5_waitsFor_33, pX5_waitsFor_34, pX5_waitsFor_35, pX5_waitsFor_36, pX5_waitsFor_39, pX5_waitsFor_40, pX5_waitsFor_41, pX5_waitsFor_44, pX5_waitsFor_47, pX5_waitsFor_48, pX5_waitsFor_49, pX5_waitsFor_50, pX5_waitsFor_51, pX5_waitsFor_52, pX5_waitsFor_53, pX5_waitsFor_54, pX5_waitsFor_55, pX5_waitsFor_57, pX5_waitsFor_58, pX5_waitsFor_60, pX5_waitsFor_62, pX5_waitsFor_64, pX5_waitsFor_67, pX5_waitsFor_69, pX5_waitsFor_71, pX5_waitsFor_72, pX5_waitsFor_75, pX5_waitsFor_76, pX5_waitsFor_78, pX5_waitsFor_81, pX5_waitsFor_84, pX5_waitsFor_85, pX5_waitsFor_87, pX5_waitsFor_88, pX5_waitsFor_91, pX5_waitsFor_94, pX5_waitsFor_95, pX5_waitsFor_97, pX5_waitsFor_98, pX5_waitsFor_101, pX5_waitsFor_102, pX5_waitsFor_103, pX5_waitsFor_105, pX5_waitsFor_108, pX5_waitsFor_111, pX5_waitsFor_113, nI_add, pk_mul, xn_sub, xn_and, xn_or, xn_xor, xn_shl, xn_shr, xn_lt, xn_le, xn_eq, xrf_some, xup_eq, xup_ne, xrow_eq, xrow_ne, Option.toList_some, Option.toList_none, List.singleton_append, List.nil_append, List.cons_append, xnl_n, xnl_i, xnl_r, Nat.zero_add, Nat.add_zero, ↓reduceIte, Nat.reduceEqDiff, Nat.reduceLeDiff, Nat.reduceAdd, Nat.reduceMul, Nat.reduceLT, Nat.one_ne_zero, eq_self, not_true_eq_false, not_false_eq_true, and_self]
    | succ k ih =>
      intro i n hn
      have h : ¬ 8 ≤ i := by omega
      have hi8 : i < 8 := by omega
      have h231 : 1 * 2 ^ i < 4294967296 := by
        have : 2 ^ i ≤ 2 ^ 8 := Nat.pow_le_pow_right (by decide) (by omega)
        omega
      have ih2 := ih (i + 1) n (by omega)
      rw [bm_s] at ih2
      rw [pX5_waitsFor_60]
      by_cases h1 : i = c
      · rw [show (decide (¬ i = c) && (decide (¬ σ (62 * i) ≤ σ (62 * i + 1)) && psends σ i c)) = false by simp [h1]] at ih2
        simp only [Bool.false_eq_true, if_false, Nat.or_zero] at ih2
        subst h1
        simp (disch := (first | assumption | exact xnl_i _ | exact xnl_r _ | exact xnl_n | exact Bool.toNat_lt _ | exact hb _ | exact hb2 _ | omega | exact Nat.le_of_ble_eq_true rfl | rfl | decide)) only [pX5_waitsFor_0, pX5_waitsFor_1, pX5_waitsFor_2, pX5_waitsFor_5, pX5_waitsFor_6, pX5_waitsFor_7, pX5_waitsFor_8, pX5_waitsFor_11, pX5_waitsFor_12, pX5_waitsFor_13, pX5_waitsFor_14, pX5_waitsFor_15, pX5_waitsFor_16, pX5_waitsFor_17, pX5_waitsFor_18, pX5_waitsFor_21, pX5_waitsFor_24, pX5_waitsFor_25, pX5_waitsFor_26, pX5_waitsFor_27, pX5_waitsFor_30, pX5_waitsFor_31, pX5_waitsFor_32, pX5_waitsFor_33, pX5_waitsFor_34, pX5_waitsFor_35, pX5_waitsFor_36, pX5_waitsFor_39, pX5_waitsFor_40, pX5_waitsFor_41, pX5_waitsFor_44, pX5_waitsFor_47, pX5_waitsFor_48, pX5_waitsFor_49, pX5_waitsFor_50, pX5_waitsFor_51, pX5_waitsFor_52, pX5_waitsFor_53, pX5_waitsFor_54, pX5_waitsFor_55, pX5_waitsFor_57, pX5_waitsFor_58, pX5_waitsFor_62, pX5_waitsFor_64, pX5_waitsFor_67, pX5_waitsFor_69, pX5_waitsFor_71, pX5_waitsFor_72, pX5_waitsFor_75, pX5_waitsFor_76, pX5_waitsFor_78, pX5_waitsFor_81, pX5_waitsFor_84, pX5_waitsFor_85, pX5_waitsFor_87, pX5_waitsFor_88, pX5_waitsFor_91, pX5_waitsFor_94, pX5_waitsFor_95, pX5_waitsFor_97, pX5_waitsFor_98, pX5_waitsFor_101, pX5_waitsFor_102, pX5_waitsFor_103, pX5_waitsFor_105, pX5_waitsFor_108, pX5_waitsFor_111, pX5_waitsFor_113, nI_add, pk_mul, xn_sub, xn_and, xn_or, xn_xor, xn_shl, xn_shr, xn_lt, xn_le, xn_eq, xrf_some, xup_eq, xup_ne, xrow_eq, xrow_ne, Option.toList_some, Option.toList_none, List.singleton_append, List.nil_append, List.cons_append, xnl_n, xnl_i, xnl_r, Nat.zero_add, Nat.add_zero, ↓reduceIte, Nat.reduceEqDiff, Nat.reduceLeDiff, Nat.reduceAdd, Nat.reduceMul, Nat.reduceLT, Nat.one_ne_zero, eq_self, not_true_eq_false, not_false_eq_true, and_self, h, Nat.or_zero]
        exact ih2
      · by_cases h2 : σ (62 * i) ≤ σ (62 * i + 1)
        · rw [show (decide (¬ i = c) && (decide (¬ σ (62 * i) ≤ σ (62 * i + 1)) && psends σ i c)) = false by simp [h2]] at ih2
          simp only [Bool.false_eq_true, if_false, Nat.or_zero] at ih2
          simp (disch := (first | assumption | exact xnl_i _ | exact xnl_r _ | exact xnl_n | exact Bool.toNat_lt _ | exact hb _ | exact hb2 _ | omega | exact Nat.le_of_ble_eq_true rfl | rfl | decide)) only [pX5_waitsFor_0, pX5_waitsFor_1, pX5_waitsFor_2, pX5_waitsFor_5, pX5_waitsFor_6, pX5_waitsFor_7, pX5_waitsFor_8, pX5_waitsFor_11, pX5_waitsFor_12, pX5_waitsFor_13, pX5_waitsFor_14, pX5_waitsFor_15, pX5_waitsFor_16, pX5_waitsFor_17, pX5_waitsFor_18, pX5_waitsFor_21, pX5_waitsFor_24, pX5_waitsFor_25, pX5_waitsFor_26, pX5_waitsFor_27, pX5_waitsFor_30, pX5_waitsFor_31, pX5_waitsFor_32, pX5_waitsFor_33, pX5_waitsFor_34, pX5_waitsFor_35, pX5_waitsFor_36, pX5_waitsFor_39, pX5_waitsFor_40, pX5_waitsFor_41, pX5_waitsFor_44, pX5_waitsFor_47, pX5_waitsFor_48, pX5_waitsFor_49, pX5_waitsFor_50, pX5_waitsFor_51, pX5_waitsFor_52, pX5_waitsFor_53, pX5_waitsFor_54, pX5_waitsFor_55, pX5_waitsFor_57, pX5_waitsFor_58, pX5_waitsFor_62, pX5_waitsFor_64, pX5_waitsFor_67, pX5_waitsFor_69, pX5_waitsFor_71, pX5_waitsFor_72, pX5_waitsFor_75, pX5_waitsFor_76, pX5_waitsFor_78, pX5_waitsFor_81, pX5_waitsFor_84, pX5_waitsFor_85, pX5_waitsFor_87, pX5_waitsFor_88, pX5_waitsFor_91, pX5_waitsFor_94, pX5_waitsFor_95, pX5_waitsFor_97, pX5_waitsFor_98, pX5_waitsFor_101, pX5_waitsFor_102, pX5_waitsFor_103, pX5_waitsFor_105, pX5_waitsFor_108, pX5_waitsFor_111, pX5_waitsFor_113, nI_add, pk_mul, xn_sub, xn_and, xn_or, xn_xor, xn_shl, xn_shr, xn_lt, xn_le, xn_eq, xrf_some, xup_eq, xup_ne, xrow_eq, xrow_ne, Option.toList_some, Option.toList_none, List.singleton_append, List.nil_append, List.cons_append, xnl_n, xnl_i, xnl_r, Nat.zero_add, Nat.add_zero, ↓reduceIte, Nat.reduceEqDiff, Nat.reduceLeDiff, Nat.reduceAdd, Nat.reduceMul, Nat.reduceLT, Nat.one_ne_zero, eq_self, not_true_eq_false, not_false_eq_true, and_self, h, h1, s_done hS hσ hw, h2, Nat.or_zero]
          exact ih2
        · cases h3 : psends σ i c with
          | true =>
            rw [show (decide (¬ i = c) && (decide (¬ σ (62 * i) ≤ σ (62 * i + 1)) && psends σ i c)) = true by simp [h1, h2, h3]] at ih2
            simp only [if_true] at ih2
            simp (disch := (first | assumption | exact xnl_i _ | exact xnl_r _ | exact xnl_n | exact Bool.toNat_lt _ | exact hb _ | exact hb2 _ | omega | exact Nat.le_of_ble_eq_true rfl | rfl | decide)) only [pX5_waitsFor_0, pX5_waitsFor_1, pX5_waitsFor_2, pX5_waitsFor_5, pX5_waitsFor_6, pX5_waitsFor_7, pX5_waitsFor_8, pX5_waitsFor_11, pX5_waitsFor_12, pX5_waitsFor_13, pX5_waitsFor_14, pX5_waitsFor_15, pX5_waitsFor_16, pX5_waitsFor_17, pX5_waitsFor_18, pX5_waitsFor_21, pX5_waitsFor_24, pX5_waitsFor_25, pX5_waitsFor_26, pX5_waitsFor_27, pX5_waitsFor_30, pX5_waitsFor_31, pX5_waitsFor_32, pX5_waitsFor_33, pX5_waitsFor_34, pX5_waitsFor_35, pX5_waitsFor_36, pX5_waitsFor_39, pX5_waitsFor_40, pX5_waitsFor_41, pX5_waitsFor_44, pX5_waitsFor_47, pX5_waitsFor_48, pX5_waitsFor_49, pX5_waitsFor_50, pX5_waitsFor_51, pX5_waitsFor_52, pX5_waitsFor_53, pX5_waitsFor_54, pX5_waitsFor_55, pX5_waitsFor_57, pX5_waitsFor_58, pX5_waitsFor_62, pX5_waitsFor_64, pX5_waitsFor_67, pX5_waitsFor_69, pX5_waitsFor_71, pX5_waitsFor_72, pX5_waitsFor_75, pX5_waitsFor_76, pX5_waitsFor_78, pX5_waitsFor_81, pX5_waitsFor_84, pX5_waitsFor_85, pX5_waitsFor_87, pX5_waitsFor_88, pX5_waitsFor_91, pX5_waitsFor_94, pX5_waitsFor_95, pX5_waitsFor_97, pX5_waitsFor_98, pX5_waitsFor_101, pX5_waitsFor_102, pX5_waitsFor_103, pX5_waitsFor_105, pX5_waitsFor_108, pX5_waitsFor_111, pX5_waitsFor_113, nI_add, pk_mul, xn_sub, xn_and, xn_or, xn_xor, xn_shl, xn_shr, xn_lt, xn_le, xn_eq, xrf_some, xup_eq, xup_ne, xrow_eq, xrow_ne, Option.toList_some, Option.toList_none, List.singleton_append, List.nil_append, List.cons_append, xnl_n, xnl_i, xnl_r, Nat.zero_add, Nat.add_zero, ↓reduceIte, Nat.reduceEqDiff, Nat.reduceLeDiff, Nat.reduceAdd, Nat.reduceMul, Nat.reduceLT, Nat.one_ne_zero, eq_self, not_true_eq_false, not_false_eq_true, and_self, h, h1, s_done hS hσ hw, h2, s_sendsTo hS hσ hw, h3, Bool.toNat_true, Nat.one_mul]
            exact ih2
          | false =>
            rw [show (decide (¬ i = c) && (decide (¬ σ (62 * i) ≤ σ (62 * i + 1)) && psends σ i c)) = false by simp [h3]] at ih2
            simp only [Bool.false_eq_true, if_false, Nat.or_zero] at ih2
            simp (disch := (first | assumption | exact xnl_i _ | exact xnl_r _ | exact xnl_n | exact Bool.toNat_lt _ | exact hb _ | exact hb2 _ | omega | exact Nat.le_of_ble_eq_true rfl | rfl | decide)) only [pX5_waitsFor_0, pX5_waitsFor_1, pX5_waitsFor_2, pX5_waitsFor_5, pX5_waitsFor_6, pX5_waitsFor_7, pX5_waitsFor_8, pX5_waitsFor_11, pX5_waitsFor_12, pX5_waitsFor_13, pX5_waitsFor_14, pX5_waitsFor_15, pX5_waitsFor_16, pX5_waitsFor_17, pX5_waitsFor_18, pX5_waitsFor_21, pX5_waitsFor_24, pX5_waitsFor_25, pX5_waitsFor_26, pX5_waitsFor_27, pX5_waitsFor_30, pX5_waitsFor_31, pX5_waitsFor_32, pX5_waitsFor_33, pX5_waitsFor_34, pX5_waitsFor_35, pX5_waitsFor_36, pX5_waitsFor_39, pX5_waitsFor_40, pX5_waitsFor_41, pX5_waitsFor_44, pX5_waitsFor_47, pX5_waitsFor_48, pX5_waitsFor_49, pX5_waitsFor_50, pX5_waitsFor_51, pX5_waitsFor_52, pX5_waitsFor_53, pX5_waitsFor_54, pX5_waitsFor_55, pX5_waitsFor_57, pX5_waitsFor_58, pX5_waitsFor_62, pX5_waitsFor_64, pX5_waitsFor_67, pX5_waitsFor_69, pX5_waitsFor_71, pX5_waitsFor_72, pX5_waitsFor_75, pX5_waitsFor_76, pX5_waitsFor_78, pX5_waitsFor_81, pX5_waitsFor_84, pX5_waitsFor_85, pX5_waitsFor_87, pX5_waitsFor_88, pX5_waitsFor_91, pX5_waitsFor_94, pX5_waitsFor_95, pX5_waitsFor_97, pX5_waitsFor_98, pX5_waitsFor_101, pX5_waitsFor_102, pX5_waitsFor_103, pX5_waitsFor_105, pX5_waitsFor_108, pX5_waitsFor_111, pX5_waitsFor_113, nI_add, pk_mul, xn_sub, xn_and, xn_or, xn_xor, xn_shl, xn_shr, xn_lt, xn_le, xn_eq, xrf_some, xup_eq, xup_ne, xrow_eq, xrow_ne, Option.toList_some, Option.toList_none, List.singleton_append, List.nil_append, List.cons_append, xnl_n, xnl_i, xnl_r, Nat.zero_add, Nat.add_zero, ↓reduceIte, Nat.reduceEqDiff, Nat.reduceLeDiff, Nat.reduceAdd, Nat.reduceMul, Nat.reduceLT, Nat.one_ne_zero, eq_self, not_true_eq_false, not_false_eq_true, and_self, h, h1, s_done hS hσ hw, h2, s_sendsTo hS hσ hw, h3, Bool.toNat_false, Nat.or_zero]
            exact ih2
  have hst : pst σ c ≤ 5 := by
    unfold pst
    repeat' split
    all_goals omega
  show xX E mX5_waitsFor 0 [some (.ref t), some (.int (nI c)), none, none, none, none] [] S V Q ↔ _
  simp (disch := (first | assumption | exact xnl_i _ | exact xnl_r _ | exact xnl_n | exact Bool.toNat_lt _ | exact hb _ | exact hb2 _ | omega | exact Nat.le_of_ble_eq_true rfl | rfl | decide)) only [pX5_waitsFor_0, pX5_waitsFor_1, pX5_waitsFor_2, pX5_waitsFor_5, pX5_waitsFor_6, nI_add, pk_mul, xn_sub, xn_and, xn_or, xn_xor, xn_shl, xn_shr, xn_lt, xn_le, xn_eq, xrf_some, xup_eq, xup_ne, xrow_eq, xrow_ne, Option.toList_some, Option.toList_none, List.singleton_append, List.nil_append, List.cons_append, xnl_n, xnl_i, xnl_r, Nat.zero_add, Nat.add_zero, ↓reduceIte, Nat.reduceEqDiff, Nat.reduceLeDiff, Nat.reduceAdd, Nat.reduceMul, Nat.reduceLT, Nat.one_ne_zero, eq_self, not_true_eq_false, not_false_eq_true, and_self, s_stateOf hS hσ hw]
  by_cases h3 : 3 ≤ pst σ c
  · have hnd : ¬ σ (62 * c) ≤ σ (62 * c + 1) := fun z => by unfold pst at h3; rw [if_pos z] at h3; omega
    obtain ⟨hok, hmk⟩ := w9 (σ (62 * c + 1)) (by omega)
    simp (disch := (first | assumption | exact xnl_i _ | exact xnl_r _ | exact xnl_n | exact Bool.toNat_lt _ | exact hb _ | exact hb2 _ | omega | exact Nat.le_of_ble_eq_true rfl | rfl | decide)) only [pX5_waitsFor_7, pX5_waitsFor_8, pX5_waitsFor_11, pX5_waitsFor_12, pX5_waitsFor_13, pX5_waitsFor_14, pX5_waitsFor_15, pX5_waitsFor_16, pX5_waitsFor_17, pX5_waitsFor_18, pX5_waitsFor_21, pX5_waitsFor_24, pX5_waitsFor_25, pX5_waitsFor_26, pX5_waitsFor_27, nI_add, pk_mul, xn_sub, xn_and, xn_or, xn_xor, xn_shl, xn_shr, xn_lt, xn_le, xn_eq, xrf_some, xup_eq, xup_ne, xrow_eq, xrow_ne, Option.toList_some, Option.toList_none, List.singleton_append, List.nil_append, List.cons_append, xnl_n, xnl_i, xnl_r, Nat.zero_add, Nat.add_zero, ↓reduceIte, Nat.reduceEqDiff, Nat.reduceLeDiff, Nat.reduceAdd, Nat.reduceMul, Nat.reduceLT, Nat.one_ne_zero, eq_self, not_true_eq_false, not_false_eq_true, and_self, k0, r1, r2, r3, r5, r6, r7, r9, r10, r14, s_get hS, hv, s_argumentOf hS hσ, h3]
    have hcase : pst σ c = 3 ∨ pst σ c = 4 ∨ pst σ c = 5 := by omega
    rcases hcase with hq | hq | hq
    · have hcmd : pcmd σ c (σ (62 * c + 1)) = 3 ∧ 0 < σ (497 + parg σ c (σ (62 * c + 1))) := by
        unfold pst at hq
        rw [if_neg hnd] at hq
        split at hq
        · omega
        · split at hq
          · split at hq <;> omega
          · split at hq
            · split at hq <;> omega
            · split at hq
              · rename_i h5; split at hq
                · rename_i h6; exact ⟨h5, h6⟩
                · omega
              · omega
      have ha : parg σ c (σ (62 * c + 1)) ≤ 3 := by unfold pok at hok; omega
      have hh := hw.2.2 (parg σ c (σ (62 * c + 1))) (by omega)
      have h231 : 1 * 2 ^ (σ (497 + parg σ c (σ (62 * c + 1))) - 1) < 4294967296 := by
        have : 2 ^ (σ (497 + parg σ c (σ (62 * c + 1))) - 1) ≤ 2 ^ 8 := Nat.pow_le_pow_right (by decide) (by omega)
        omega
      have e : pwait σ c = 2 ^ (σ (497 + parg σ c (σ (62 * c + 1))) - 1) := by unfold pwait; rw [if_neg (by omega), if_pos hq]
      rw [e]
      simp (disch := (first | assumption | exact xnl_i _ | exact xnl_r _ | exact xnl_n | exact Bool.toNat_lt _ | exact hb _ | exact hb2 _ | omega | exact Nat.le_of_ble_eq_true rfl | rfl | decide)) only [pX5_waitsFor_25, pX5_waitsFor_26, pX5_waitsFor_27, pX5_waitsFor_30, pX5_waitsFor_31, pX5_waitsFor_32, pX5_waitsFor_33, pX5_waitsFor_34, pX5_waitsFor_35, pX5_waitsFor_36, pX5_waitsFor_39, pX5_waitsFor_40, pX5_waitsFor_41, pX5_waitsFor_44, pX5_waitsFor_47, pX5_waitsFor_48, pX5_waitsFor_49, pX5_waitsFor_50, pX5_waitsFor_51, pX5_waitsFor_52, pX5_waitsFor_53, nI_add, pk_mul, xn_sub, xn_and, xn_or, xn_xor, xn_shl, xn_shr, xn_lt, xn_le, xn_eq, xrf_some, xup_eq, xup_ne, xrow_eq, xrow_ne, Option.toList_some, Option.toList_none, List.singleton_append, List.nil_append, List.cons_append, xnl_n, xnl_i, xnl_r, Nat.zero_add, Nat.add_zero, ↓reduceIte, Nat.reduceEqDiff, Nat.reduceLeDiff, Nat.reduceAdd, Nat.reduceMul, Nat.reduceLT, Nat.one_ne_zero, eq_self, not_true_eq_false, not_false_eq_true, and_self, k0, r1, r2, r3, r5, r6, r7, r9, r10, r14, hv, hq, Nat.one_mul]
    · have e : pwait σ c = bm (fun o => decide (¬ o = c) && (decide (¬ σ (62 * o) ≤ σ (62 * o + 1)) && psends σ o c)) 8 := by unfold pwait; rw [if_neg (by omega), if_neg (by omega), if_pos hq]
      rw [e]
      simp (disch := (first | assumption | exact xnl_i _ | exact xnl_r _ | exact xnl_n | exact Bool.toNat_lt _ | exact hb _ | exact hb2 _ | omega | exact Nat.le_of_ble_eq_true rfl | rfl | decide)) only [pX5_waitsFor_25, pX5_waitsFor_26, pX5_waitsFor_27, pX5_waitsFor_30, pX5_waitsFor_31, pX5_waitsFor_32, pX5_waitsFor_33, pX5_waitsFor_34, pX5_waitsFor_35, pX5_waitsFor_36, pX5_waitsFor_39, pX5_waitsFor_40, pX5_waitsFor_41, pX5_waitsFor_44, pX5_waitsFor_47, pX5_waitsFor_48, pX5_waitsFor_49, pX5_waitsFor_50, pX5_waitsFor_51, pX5_waitsFor_52, pX5_waitsFor_53, pX5_waitsFor_54, pX5_waitsFor_55, pX5_waitsFor_57, pX5_waitsFor_58, nI_add, pk_mul, xn_sub, xn_and, xn_or, xn_xor, xn_shl, xn_shr, xn_lt, xn_le, xn_eq, xrf_some, xup_eq, xup_ne, xrow_eq, xrow_ne, Option.toList_some, Option.toList_none, List.singleton_append, List.nil_append, List.cons_append, xnl_n, xnl_i, xnl_r, Nat.zero_add, Nat.add_zero, ↓reduceIte, Nat.reduceEqDiff, Nat.reduceLeDiff, Nat.reduceAdd, Nat.reduceMul, Nat.reduceLT, Nat.one_ne_zero, eq_self, not_true_eq_false, not_false_eq_true, and_self, hq]
      exact loop 8 0 _ rfl
    · have hcmd : pcmd σ c (σ (62 * c + 1)) = 1 := by
        unfold pst at hq
        rw [if_neg hnd] at hq
        split at hq
        · omega
        · split at hq
          · rename_i h5; exact h5
          · split at hq
            · split at hq <;> omega
            · split at hq
              · split at hq <;> omega
              · omega
      have ha : parg σ c (σ (62 * c + 1)) ≤ 7 := by unfold pok at hok; omega
      have h231 : 1 * 2 ^ parg σ c (σ (62 * c + 1)) < 4294967296 := by
        have : 2 ^ parg σ c (σ (62 * c + 1)) ≤ 2 ^ 8 := Nat.pow_le_pow_right (by decide) (by omega)
        omega
      have e : pwait σ c = 2 ^ parg σ c (σ (62 * c + 1)) := by unfold pwait; rw [if_pos hq]
      rw [e]
      simp (disch := (first | assumption | exact xnl_i _ | exact xnl_r _ | exact xnl_n | exact Bool.toNat_lt _ | exact hb _ | exact hb2 _ | omega | exact Nat.le_of_ble_eq_true rfl | rfl | decide)) only [pX5_waitsFor_25, pX5_waitsFor_26, pX5_waitsFor_27, pX5_waitsFor_30, pX5_waitsFor_31, pX5_waitsFor_32, pX5_waitsFor_33, nI_add, pk_mul, xn_sub, xn_and, xn_or, xn_xor, xn_shl, xn_shr, xn_lt, xn_le, xn_eq, xrf_some, xup_eq, xup_ne, xrow_eq, xrow_ne, Option.toList_some, Option.toList_none, List.singleton_append, List.nil_append, List.cons_append, xnl_n, xnl_i, xnl_r, Nat.zero_add, Nat.add_zero, ↓reduceIte, Nat.reduceEqDiff, Nat.reduceLeDiff, Nat.reduceAdd, Nat.reduceMul, Nat.reduceLT, Nat.one_ne_zero, eq_self, not_true_eq_false, not_false_eq_true, and_self, hq, Nat.one_mul]
  · have e : pwait σ c = 0 := by unfold pwait; rw [if_neg (by omega), if_neg (by omega), if_neg (by omega)]
    rw [e]
    simp (disch := (first | assumption | exact xnl_i _ | exact xnl_r _ | exact xnl_n | exact Bool.toNat_lt _ | exact hb _ | exact hb2 _ | omega | exact Nat.le_of_ble_eq_true rfl | rfl | decide)) only [pX5_waitsFor_7, pX5_waitsFor_8, pX5_waitsFor_11, pX5_waitsFor_12, nI_add, pk_mul, xn_sub, xn_and, xn_or, xn_xor, xn_shl, xn_shr, xn_lt, xn_le, xn_eq, xrf_some, xup_eq, xup_ne, xrow_eq, xrow_ne, Option.toList_some, Option.toList_none, List.singleton_append, List.nil_append, List.cons_append, xnl_n, xnl_i, xnl_r, Nat.zero_add, Nat.add_zero, ↓reduceIte, Nat.reduceEqDiff, Nat.reduceLeDiff, Nat.reduceAdd, Nat.reduceMul, Nat.reduceLT, Nat.one_ne_zero, eq_self, not_true_eq_false, not_false_eq_true, and_self, h3]
end MWT
