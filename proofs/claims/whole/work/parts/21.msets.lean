/-! ===== the reference: sets and sums over the contexts ===== -/
def psum (σ : Nat → Nat) (w : Nat) : Nat → Nat
  | 0 => 0
  | n + 1 => psum σ w n + σ (62 * n + w)
def pcnt (s : Nat) : Nat → Nat
  | 0 => 0
  | n + 1 => pcnt s n + (if s.testBit n = true then 1 else 0)
def prings (σ : Nat → Nat) : Nat := bm (fun c => (pfar σ c).testBit c) 8
theorem pst_le (σ : Nat → Nat) (c : Nat) : pst σ c ≤ 5 := by
  unfold pst
  repeat' split
  all_goals omega
theorem pst_lt (σ : Nat → Nat) (c : Nat) : pst σ c < 2147483648 := by have := pst_le σ c; omega
theorem bm_lt8 (P : Nat → Bool) : bm P 8 < 2147483648 := Nat.lt_trans (bm_lt P 8) (by decide)
theorem bm_0 {P : Nat → Bool} : ∀ {n}, bm P n = 0 ↔ ∀ i, i < n → P i = false := by
  intro n
  constructor
  · intro h i hi
    have := bm_bit P n i
    rw [h, Nat.zero_testBit] at this
    simp [hi] at this
    exact this
  · intro h
    apply Nat.eq_of_testBit_eq
    intro i
    rw [bm_bit, Nat.zero_testBit]
    by_cases hi : i < n
    · simp [h i hi]
    · simp [hi]
theorem psum_le {σ : Nat → Nat} (h : ∀ i, σ i ≤ 200000) (w : Nat) : ∀ n, psum σ w n ≤ 200000 * n := by
  intro n
  induction n with
  | zero => exact Nat.le_refl _
  | succ n ih => have := h (62 * n + w); unfold psum; omega
theorem pcnt_le (s : Nat) : ∀ n, pcnt s n ≤ n := by
  intro n
  induction n with
  | zero => exact Nat.le_refl _
  | succ n ih => unfold pcnt; split <;> omega
theorem tb_and1 (f o : Nat) : f / 2 ^ o &&& 1 = if f.testBit o = true then 1 else 0 := by
  by_cases h : f.testBit o = true
  · rw [if_pos h]; exact (tb_and f o).mpr h
  · rw [if_neg h]
    have hz : ¬ f / 2 ^ o &&& 1 = 1 := fun z => h ((tb_and f o).mp z)
    generalize f / 2 ^ o = x at hz ⊢
    rw [Nat.and_one_is_mod] at hz ⊢
    omega
section MSS
variable {E : Nat × Nat × Nat} {S : xSh} {V : xV} {Q : Option Value → xSh → xV → Prop} {t : Nat} {σ : Nat → Nat}
theorem s_inState (hS : mShape S t) (hσ : mV V t σ) (hw : wf σ) {q : Nat} (hq : q < 6) : xC E mX5_inState [.ref t, .int (nI q)] S V Q ↔ Q (some (.int (nI (pin σ q)))) S V := by
  have hS' := hS; obtain ⟨k0, r1, r2, r3, r5, r6, r7, r9, r10, r14, k1, n1, k2, n2, k3, n3, k4, n4, k5, n5, k6, n6, k7, n7, k8, n8, k9, n9⟩ := hS'; have hb := wf_b hw; have hv : ∀ i, V (t + 1) i = nI (σ i) := hσ
  have hb2 := pst_lt σ
  have loop : ∀ k i, i + k = 8 → (xX E mX5_inState 4 [some (.ref t), some (.int (nI q)), some (.int (nI (bm (fun c => decide (pst σ c = q)) i))), some (.int (nI i))] [] S V Q ↔ Q (some (.int (nI (pin σ q)))) S V) := by
    intro k
    induction k with
    | zero =>
      intro i hn
      have hi : i = 8 := by omega
      subst hi
      simp (disch := (first | assumption | exact xnl_i _ | exact xnl_r _ | exact xnl_n | exact Bool.toNat_lt _ | exact hb _ | exact hb2 _ | omega | exact Nat.le_of_ble_eq_true rfl | rfl | decide)) only [pX5_inState_0, pX5_inState_1, pX5_inState_2, pX5_inState_3, pX5_inState_4, pX5_inState_5, pX5_inState_7, pX5_inState_10, pX5_inState_11, pX5_inState_12, pX5_inState_13, pX5_inState_16, pX5_inState_17, pX5_inState_20, pX5_inState_21, pX5_inState_22, pX5_inState_23, pX5_inState_26, pX5_inState_27, pX5_inState_28, pX5_inState_29, pX5_inState_32, pX5_inState_35, pX5_inState_36, nI_add, pk_mul, xn_sub, xn_and, xn_or, xn_xor, xn_shl, xn_shr, xn_lt, xn_le, xn_eq, xrf_some, xup_eq, xup_ne, xrow_eq, xrow_ne, Option.toList_some, Option.toList_none, List.singleton_append, List.nil_append, List.cons_append, xnl_n, xnl_i, xnl_r, Nat.zero_add, Nat.add_zero, ↓reduceIte, Nat.reduceEqDiff, Nat.reduceLeDiff, Nat.reduceAdd, Nat.reduceMul, Nat.reduceLT, Nat.one_ne_zero, eq_self, not_true_eq_false, not_false_eq_true, and_self]
      rfl
    | succ k ih =>
      intro i hn
      have h : ¬ 8 ≤ i := by omega
      have hi8 : i < 8 := by omega
      have h231 : 1 * 2 ^ i < 4294967296 := by
        have : 2 ^ i ≤ 2 ^ 8 := Nat.pow_le_pow_right (by decide) (by omega)
        omega
      have ih2 := ih (i + 1) (by omega)
      rw [bm_s] at ih2
      rw [pX5_inState_4]
      by_cases h1 : pst σ i = q
      · simp only [h1, decide_true, if_true] at ih2
        simp (disch := (first | assumption | exact xnl_i _ | exact xnl_r _ | exact xnl_n | exact Bool.toNat_lt _ | exact hb _ | exact hb2 _ | omega | exact Nat.le_of_ble_eq_true rfl | rfl | decide)) only [pX5_inState_0, pX5_inState_1, pX5_inState_2, pX5_inState_3, pX5_inState_5, pX5_inState_7, pX5_inState_10, pX5_inState_11, pX5_inState_12, pX5_inState_13, pX5_inState_16, pX5_inState_17, pX5_inState_20, pX5_inState_21, pX5_inState_22, pX5_inState_23, pX5_inState_26, pX5_inState_27, pX5_inState_28, pX5_inState_29, pX5_inState_32, pX5_inState_35, pX5_inState_36, nI_add, pk_mul, xn_sub, xn_and, xn_or, xn_xor, xn_shl, xn_shr, xn_lt, xn_le, xn_eq, xrf_some, xup_eq, xup_ne, xrow_eq, xrow_ne, Option.toList_some, Option.toList_none, List.singleton_append, List.nil_append, List.cons_append, xnl_n, xnl_i, xnl_r, Nat.zero_add, Nat.add_zero, ↓reduceIte, Nat.reduceEqDiff, Nat.reduceLeDiff, Nat.reduceAdd, Nat.reduceMul, Nat.reduceLT, Nat.one_ne_zero, eq_self, not_true_eq_false, not_false_eq_true, and_self, h, s_stateOf hS hσ hw, h1, Nat.one_mul]
        exact ih2
      · simp only [h1, decide_false, Bool.false_eq_true, if_false] at ih2
        simp (disch := (first | assumption | exact xnl_i _ | exact xnl_r _ | exact xnl_n | exact Bool.toNat_lt _ | exact hb _ | exact hb2 _ | omega | exact Nat.le_of_ble_eq_true rfl | rfl | decide)) only [pX5_inState_0, pX5_inState_1, pX5_inState_2, pX5_inState_3, pX5_inState_5, pX5_inState_7, pX5_inState_10, pX5_inState_11, pX5_inState_12, pX5_inState_13, pX5_inState_16, pX5_inState_17, pX5_inState_20, pX5_inState_21, pX5_inState_22, pX5_inState_23, pX5_inState_26, pX5_inState_27, pX5_inState_28, pX5_inState_29, pX5_inState_32, pX5_inState_35, pX5_inState_36, nI_add, pk_mul, xn_sub, xn_and, xn_or, xn_xor, xn_shl, xn_shr, xn_lt, xn_le, xn_eq, xrf_some, xup_eq, xup_ne, xrow_eq, xrow_ne, Option.toList_some, Option.toList_none, List.singleton_append, List.nil_append, List.cons_append, xnl_n, xnl_i, xnl_r, Nat.zero_add, Nat.add_zero, ↓reduceIte, Nat.reduceEqDiff, Nat.reduceLeDiff, Nat.reduceAdd, Nat.reduceMul, Nat.reduceLT, Nat.one_ne_zero, eq_self, not_true_eq_false, not_false_eq_true, and_self, h, s_stateOf hS hσ hw, h1]
        exact ih2
  show xX E mX5_inState 0 [some (.ref t), some (.int (nI q)), none, none] [] S V Q ↔ _
  simp (disch := (first | assumption | exact xnl_i _ | exact xnl_r _ | exact xnl_n | exact Bool.toNat_lt _ | exact hb _ | exact hb2 _ | omega | exact Nat.le_of_ble_eq_true rfl | rfl | decide)) only [pX5_inState_0, pX5_inState_1, pX5_inState_2, pX5_inState_3, nI_add, pk_mul, xn_sub, xn_and, xn_or, xn_xor, xn_shl, xn_shr, xn_lt, xn_le, xn_eq, xrf_some, xup_eq, xup_ne, xrow_eq, xrow_ne, Option.toList_some, Option.toList_none, List.singleton_append, List.nil_append, List.cons_append, xnl_n, xnl_i, xnl_r, Nat.zero_add, Nat.add_zero, ↓reduceIte, Nat.reduceEqDiff, Nat.reduceLeDiff, Nat.reduceAdd, Nat.reduceMul, Nat.reduceLT, Nat.one_ne_zero, eq_self, not_true_eq_false, not_false_eq_true, and_self]
  exact loop 8 0 rfl
theorem s_isStuck (hS : mShape S t) (hσ : mV V t σ) (hw : wf σ) : xC E mX5_isStuck [.ref t] S V Q ↔ Q (some (.int (nI (pstuck σ).toNat))) S V := by
  have hS' := hS; obtain ⟨k0, r1, r2, r3, r5, r6, r7, r9, r10, r14, k1, n1, k2, n2, k3, n3, k4, n4, k5, n5, k6, n6, k7, n7, k8, n8, k9, n9⟩ := hS'; have hb := wf_b hw; have hv : ∀ i, V (t + 1) i = nI (σ i) := hσ
  have hb2 := pst_lt σ
  have fin : ∀ b : Bool, b = decide (¬ pin σ 2 = 0) → (xX E mX5_isStuck 35 [some (.ref t), some (.int (nI b.toNat)), some (.int (nI 8))] [] S V Q ↔ Q (some (.int (nI (pstuck σ).toNat))) S V) := by
    intro b hbz
    have q0 : pin σ 0 < 2147483648 := bm_lt8 _
    have q1 : pin σ 1 < 2147483648 := bm_lt8 _
    unfold pstuck
    by_cases h0 : pin σ 0 = 255
    · simp (disch := (first | assumption | exact xnl_i _ | exact xnl_r _ | exact xnl_n | exact Bool.toNat_lt _ | exact hb _ | exact hb2 _ | omega | exact Nat.le_of_ble_eq_true rfl | rfl | decide)) only [pX5_isStuck_0, pX5_isStuck_1, pX5_isStuck_2, pX5_isStuck_3, pX5_isStuck_4, pX5_isStuck_5, pX5_isStuck_7, pX5_isStuck_10, pX5_isStuck_11, pX5_isStuck_14, pX5_isStuck_15, pX5_isStuck_16, pX5_isStuck_19, pX5_isStuck_20, pX5_isStuck_23, pX5_isStuck_24, pX5_isStuck_27, pX5_isStuck_28, pX5_isStuck_29, pX5_isStuck_32, pX5_isStuck_35, pX5_isStuck_36, pX5_isStuck_37, pX5_isStuck_40, pX5_isStuck_43, pX5_isStuck_46, pX5_isStuck_47, pX5_isStuck_48, pX5_isStuck_51, pX5_isStuck_54, pX5_isStuck_55, pX5_isStuck_58, pX5_isStuck_59, pX5_isStuck_62, pX5_isStuck_63, nI_add, pk_mul, xn_sub, xn_and, xn_or, xn_xor, xn_shl, xn_shr, xn_lt, xn_le, xn_eq, xrf_some, xup_eq, xup_ne, xrow_eq, xrow_ne, Option.toList_some, Option.toList_none, List.singleton_append, List.nil_append, List.cons_append, xnl_n, xnl_i, xnl_r, Nat.zero_add, Nat.add_zero, ↓reduceIte, Nat.reduceEqDiff, Nat.reduceLeDiff, Nat.reduceAdd, Nat.reduceMul, Nat.reduceLT, Nat.one_ne_zero, eq_self, not_true_eq_false, not_false_eq_true, and_self, s_inState hS hσ hw, h0]
      simp
    · by_cases h1 : pin σ 1 = 0
      · by_cases h2 : pin σ 2 = 0
        · have hbf : b = false := by rw [hbz]; simp [h2]
          subst hbf
          simp (disch := (first | assumption | exact xnl_i _ | exact xnl_r _ | exact xnl_n | exact Bool.toNat_lt _ | exact hb _ | exact hb2 _ | omega | exact Nat.le_of_ble_eq_true rfl | rfl | decide)) only [pX5_isStuck_0, pX5_isStuck_1, pX5_isStuck_2, pX5_isStuck_3, pX5_isStuck_4, pX5_isStuck_5, pX5_isStuck_7, pX5_isStuck_10, pX5_isStuck_11, pX5_isStuck_14, pX5_isStuck_15, pX5_isStuck_16, pX5_isStuck_19, pX5_isStuck_20, pX5_isStuck_23, pX5_isStuck_24, pX5_isStuck_27, pX5_isStuck_28, pX5_isStuck_29, pX5_isStuck_32, pX5_isStuck_35, pX5_isStuck_36, pX5_isStuck_37, pX5_isStuck_40, pX5_isStuck_43, pX5_isStuck_46, pX5_isStuck_47, pX5_isStuck_48, pX5_isStuck_51, pX5_isStuck_54, pX5_isStuck_55, pX5_isStuck_58, pX5_isStuck_59, pX5_isStuck_62, pX5_isStuck_63, nI_add, pk_mul, xn_sub, xn_and, xn_or, xn_xor, xn_shl, xn_shr, xn_lt, xn_le, xn_eq, xrf_some, xup_eq, xup_ne, xrow_eq, xrow_ne, Option.toList_some, Option.toList_none, List.singleton_append, List.nil_append, List.cons_append, xnl_n, xnl_i, xnl_r, Nat.zero_add, Nat.add_zero, ↓reduceIte, Nat.reduceEqDiff, Nat.reduceLeDiff, Nat.reduceAdd, Nat.reduceMul, Nat.reduceLT, Nat.one_ne_zero, eq_self, not_true_eq_false, not_false_eq_true, and_self, s_inState hS hσ hw, h0, h1, Bool.toNat_false]
          simp [h2]
        · have hbf : b = true := by rw [hbz]; simp [h2]
          subst hbf
          simp (disch := (first | assumption | exact xnl_i _ | exact xnl_r _ | exact xnl_n | exact Bool.toNat_lt _ | exact hb _ | exact hb2 _ | omega | exact Nat.le_of_ble_eq_true rfl | rfl | decide)) only [pX5_isStuck_0, pX5_isStuck_1, pX5_isStuck_2, pX5_isStuck_3, pX5_isStuck_4, pX5_isStuck_5, pX5_isStuck_7, pX5_isStuck_10, pX5_isStuck_11, pX5_isStuck_14, pX5_isStuck_15, pX5_isStuck_16, pX5_isStuck_19, pX5_isStuck_20, pX5_isStuck_23, pX5_isStuck_24, pX5_isStuck_27, pX5_isStuck_28, pX5_isStuck_29, pX5_isStuck_32, pX5_isStuck_35, pX5_isStuck_36, pX5_isStuck_37, pX5_isStuck_40, pX5_isStuck_43, pX5_isStuck_46, pX5_isStuck_47, pX5_isStuck_48, pX5_isStuck_51, pX5_isStuck_54, pX5_isStuck_55, pX5_isStuck_58, pX5_isStuck_59, pX5_isStuck_62, pX5_isStuck_63, nI_add, pk_mul, xn_sub, xn_and, xn_or, xn_xor, xn_shl, xn_shr, xn_lt, xn_le, xn_eq, xrf_some, xup_eq, xup_ne, xrow_eq, xrow_ne, Option.toList_some, Option.toList_none, List.singleton_append, List.nil_append, List.cons_append, xnl_n, xnl_i, xnl_r, Nat.zero_add, Nat.add_zero, ↓reduceIte, Nat.reduceEqDiff, Nat.reduceLeDiff, Nat.reduceAdd, Nat.reduceMul, Nat.reduceLT, Nat.one_ne_zero, eq_self, not_true_eq_false, not_false_eq_true, and_self, s_inState hS hσ hw, h0, h1, Bool.toNat_true]
          simp [h2]
      · simp (disch := (first | assumption | exact xnl_i _ | exact xnl_r _ | exact xnl_n | exact Bool.toNat_lt _ | exact hb _ | exact hb2 _ | omega | exact Nat.le_of_ble_eq_true rfl | rfl | decide)) only [pX5_isStuck_0, pX5_isStuck_1, pX5_isStuck_2, pX5_isStuck_3, pX5_isStuck_4, pX5_isStuck_5, pX5_isStuck_7, pX5_isStuck_10, pX5_isStuck_11, pX5_isStuck_14, pX5_isStuck_15, pX5_isStuck_16, pX5_isStuck_19, pX5_isStuck_20, pX5_isStuck_23, pX5_isStuck_24, pX5_isStuck_27, pX5_isStuck_28, pX5_isStuck_29, pX5_isStuck_32, pX5_isStuck_35, pX5_isStuck_36, pX5_isStuck_37, pX5_isStuck_40, pX5_isStuck_43, pX5_isStuck_46, pX5_isStuck_47, pX5_isStuck_48, pX5_isStuck_51, pX5_isStuck_54, pX5_isStuck_55, pX5_isStuck_58, pX5_isStuck_59, pX5_isStuck_62, pX5_isStuck_63, nI_add, pk_mul, xn_sub, xn_and, xn_or, xn_xor, xn_shl, xn_shr, xn_lt, xn_le, xn_eq, xrf_some, xup_eq, xup_ne, xrow_eq, xrow_ne, Option.toList_some, Option.toList_none, List.singleton_append, List.nil_append, List.cons_append, xnl_n, xnl_i, xnl_r, Nat.zero_add, Nat.add_zero, ↓reduceIte, Nat.reduceEqDiff, Nat.reduceLeDiff, Nat.reduceAdd, Nat.reduceMul, Nat.reduceLT, Nat.one_ne_zero, eq_self, not_true_eq_false, not_false_eq_true, and_self, s_inState hS hσ hw, h0, h1]
        simp [h1]
  have loop : ∀ k i, i + k = 8 → (xX E mX5_isStuck 4 [some (.ref t), some (.int (nI (decide (¬ bm (fun c => decide (pst σ c = 2)) i = 0)).toNat)), some (.int (nI i))] [] S V Q ↔ Q (some (.int (nI (pstuck σ).toNat))) S V) := by
    intro k
    induction k with
    | zero =>
      intro i hn
      have hi : i = 8 := by omega
      subst hi
      simp (disch := (first | assumption | exact xnl_i _ | exact xnl_r _ | exact xnl_n | exact Bool.toNat_lt _ | exact hb _ | exact hb2 _ | omega | exact Nat.le_of_ble_eq_true rfl | rfl | decide)) only [pX5_isStuck_4, pX5_isStuck_5, pX5_isStuck_7, nI_add, pk_mul, xn_sub, xn_and, xn_or, xn_xor, xn_shl, xn_shr, xn_lt, xn_le, xn_eq, xrf_some, xup_eq, xup_ne, xrow_eq, xrow_ne, Option.toList_some, Option.toList_none, List.singleton_append, List.nil_append, List.cons_append, xnl_n, xnl_i, xnl_r, Nat.zero_add, Nat.add_zero, ↓reduceIte, Nat.reduceEqDiff, Nat.reduceLeDiff, Nat.reduceAdd, Nat.reduceMul, Nat.reduceLT, Nat.one_ne_zero, eq_self, not_true_eq_false, not_false_eq_true, and_self]
      exact fin _ rfl
    | succ k ih =>
      intro i hn
      have h : ¬ 8 ≤ i := by omega
      have hi8 : i < 8 := by omega
      have ih2 := ih (i + 1) (by omega)
      rw [pX5_isStuck_4]
      by_cases hz : bm (fun c => decide (pst σ c = 2)) i = 0
      · by_cases h1 : pst σ i = 2
        · have e : ¬ bm (fun c => decide (pst σ c = 2)) (i + 1) = 0 := fun z => by
            have := bm_0.mp z i (by omega)
            simp [h1] at this
          simp only [e, not_false_eq_true, decide_true, Bool.toNat_true] at ih2
          simp only [hz, not_true_eq_false, decide_false, Bool.toNat_false]
          simp (disch := (first | assumption | exact xnl_i _ | exact xnl_r _ | exact xnl_n | exact Bool.toNat_lt _ | exact hb _ | exact hb2 _ | omega | exact Nat.le_of_ble_eq_true rfl | rfl | decide)) only [pX5_isStuck_0, pX5_isStuck_1, pX5_isStuck_2, pX5_isStuck_3, pX5_isStuck_5, pX5_isStuck_7, pX5_isStuck_10, pX5_isStuck_11, pX5_isStuck_14, pX5_isStuck_15, pX5_isStuck_16, pX5_isStuck_19, pX5_isStuck_20, pX5_isStuck_23, pX5_isStuck_24, pX5_isStuck_27, pX5_isStuck_28, pX5_isStuck_29, pX5_isStuck_32, pX5_isStuck_36, pX5_isStuck_37, pX5_isStuck_40, pX5_isStuck_43, pX5_isStuck_46, pX5_isStuck_47, pX5_isStuck_48, pX5_isStuck_51, pX5_isStuck_54, pX5_isStuck_55, pX5_isStuck_58, pX5_isStuck_59, pX5_isStuck_62, pX5_isStuck_63, nI_add, pk_mul, xn_sub, xn_and, xn_or, xn_xor, xn_shl, xn_shr, xn_lt, xn_le, xn_eq, xrf_some, xup_eq, xup_ne, xrow_eq, xrow_ne, Option.toList_some, Option.toList_none, List.singleton_append, List.nil_append, List.cons_append, xnl_n, xnl_i, xnl_r, Nat.zero_add, Nat.add_zero, ↓reduceIte, Nat.reduceEqDiff, Nat.reduceLeDiff, Nat.reduceAdd, Nat.reduceMul, Nat.reduceLT, Nat.one_ne_zero, eq_self, not_true_eq_false, not_false_eq_true, and_self, h, s_stateOf hS hσ hw, h1]
          exact ih2
        · have e : bm (fun c => decide (pst σ c = 2)) (i + 1) = 0 := bm_0.mpr fun j hj => by
            by_cases hji : j = i
            · simp [hji, h1]
            · exact bm_0.mp hz j (by omega)
          simp only [e, not_true_eq_false, decide_false, Bool.toNat_false] at ih2
          simp only [hz, not_true_eq_false, decide_false, Bool.toNat_false]
          simp (disch := (first | assumption | exact xnl_i _ | exact xnl_r _ | exact xnl_n | exact Bool.toNat_lt _ | exact hb _ | exact hb2 _ | omega | exact Nat.le_of_ble_eq_true rfl | rfl | decide)) only [pX5_isStuck_0, pX5_isStuck_1, pX5_isStuck_2, pX5_isStuck_3, pX5_isStuck_5, pX5_isStuck_7, pX5_isStuck_10, pX5_isStuck_11, pX5_isStuck_14, pX5_isStuck_15, pX5_isStuck_16, pX5_isStuck_19, pX5_isStuck_20, pX5_isStuck_23, pX5_isStuck_24, pX5_isStuck_27, pX5_isStuck_28, pX5_isStuck_29, pX5_isStuck_32, pX5_isStuck_36, pX5_isStuck_37, pX5_isStuck_40, pX5_isStuck_43, pX5_isStuck_46, pX5_isStuck_47, pX5_isStuck_48, pX5_isStuck_51, pX5_isStuck_54, pX5_isStuck_55, pX5_isStuck_58, pX5_isStuck_59, pX5_isStuck_62, pX5_isStuck_63, nI_add, pk_mul, xn_sub, xn_and, xn_or, xn_xor, xn_shl, xn_shr, xn_lt, xn_le, xn_eq, xrf_some, xup_eq, xup_ne, xrow_eq, xrow_ne, Option.toList_some, Option.toList_none, List.singleton_append, List.nil_append, List.cons_append, xnl_n, xnl_i, xnl_r, Nat.zero_add, Nat.add_zero, ↓reduceIte, Nat.reduceEqDiff, Nat.reduceLeDiff, Nat.reduceAdd, Nat.reduceMul, Nat.reduceLT, Nat.one_ne_zero, eq_self, not_true_eq_false, not_false_eq_true, and_self, h, s_stateOf hS hσ hw, h1]
          exact ih2
      · have e : ¬ bm (fun c => decide (pst σ c = 2)) (i + 1) = 0 := fun z => hz (bm_0.mpr fun j hj => bm_0.mp z j (by omega))
        simp only [e, not_false_eq_true, decide_true, Bool.toNat_true] at ih2
        simp only [hz, not_false_eq_true, decide_true, Bool.toNat_true]
        simp (disch := (first | assumption | exact xnl_i _ | exact xnl_r _ | exact xnl_n | exact Bool.toNat_lt _ | exact hb _ | exact hb2 _ | omega | exact Nat.le_of_ble_eq_true rfl | rfl | decide)) only [pX5_isStuck_0, pX5_isStuck_1, pX5_isStuck_2, pX5_isStuck_3, pX5_isStuck_5, pX5_isStuck_7, pX5_isStuck_10, pX5_isStuck_11, pX5_isStuck_14, pX5_isStuck_15, pX5_isStuck_16, pX5_isStuck_19, pX5_isStuck_20, pX5_isStuck_23, pX5_isStuck_24, pX5_isStuck_27, pX5_isStuck_28, pX5_isStuck_29, pX5_isStuck_32, pX5_isStuck_36, pX5_isStuck_37, pX5_isStuck_40, pX5_isStuck_43, pX5_isStuck_46, pX5_isStuck_47, pX5_isStuck_48, pX5_isStuck_51, pX5_isStuck_54, pX5_isStuck_55, pX5_isStuck_58, pX5_isStuck_59, pX5_isStuck_62, pX5_isStuck_63, nI_add, pk_mul, xn_sub, xn_and, xn_or, xn_xor, xn_shl, xn_shr, xn_lt, xn_le, xn_eq, xrf_some, xup_eq, xup_ne, xrow_eq, xrow_ne, Option.toList_some, Option.toList_none, List.singleton_append, List.nil_append, List.cons_append, xnl_n, xnl_i, xnl_r, Nat.zero_add, Nat.add_zero, ↓reduceIte, Nat.reduceEqDiff, Nat.reduceLeDiff, Nat.reduceAdd, Nat.reduceMul, Nat.reduceLT, Nat.one_ne_zero, eq_self, not_true_eq_false, not_false_eq_true, and_self, h]
        exact ih2
  show xX E mX5_isStuck 0 [some (.ref t), none, none] [] S V Q ↔ _
  simp (disch := (first | assumption | exact xnl_i _ | exact xnl_r _ | exact xnl_n | exact Bool.toNat_lt _ | exact hb _ | exact hb2 _ | omega | exact Nat.le_of_ble_eq_true rfl | rfl | decide)) only [pX5_isStuck_0, pX5_isStuck_1, pX5_isStuck_2, pX5_isStuck_3, nI_add, pk_mul, xn_sub, xn_and, xn_or, xn_xor, xn_shl, xn_shr, xn_lt, xn_le, xn_eq, xrf_some, xup_eq, xup_ne, xrow_eq, xrow_ne, Option.toList_some, Option.toList_none, List.singleton_append, List.nil_append, List.cons_append, xnl_n, xnl_i, xnl_r, Nat.zero_add, Nat.add_zero, ↓reduceIte, Nat.reduceEqDiff, Nat.reduceLeDiff, Nat.reduceAdd, Nat.reduceMul, Nat.reduceLT, Nat.one_ne_zero, eq_self, not_true_eq_false, not_false_eq_true, and_self]
  exact loop 8 0 rfl
theorem s_rings (hS : mShape S t) (hσ : mV V t σ) (hw : wf σ) : xC E mX5_rings [.ref t] S V Q ↔ Q (some (.int (nI (prings σ)))) S (mW V t σ) := by
  have hS' := hS; obtain ⟨k0, r1, r2, r3, r5, r6, r7, r9, r10, r14, k1, n1, k2, n2, k3, n3, k4, n4, k5, n5, k6, n6, k7, n7, k8, n8, k9, n9⟩ := hS'; have hb := wf_b hw; have hv : ∀ i, V (t + 1) i = nI (σ i) := hσ
  have loop : ∀ k i, i + k = 8 → (xX E mX5_rings 8 [some (.ref t), some (.int (nI (bm (fun c => (pfar σ c).testBit c) i))), some (.int (nI i))] [] S (mW V t σ) Q ↔ Q (some (.int (nI (prings σ)))) S (mW V t σ)) := by
    intro k
    induction k with
    | zero =>
      intro i hn
      have hi : i = 8 := by omega
      subst hi
      simp (disch := (first | assumption | exact xnl_i _ | exact xnl_r _ | exact xnl_n | exact Bool.toNat_lt _ | exact hb _ | exact hb2 _ | omega | exact Nat.le_of_ble_eq_true rfl | rfl | decide)) only [pX5_rings_0, pX5_rings_1, pX5_rings_4, pX5_rings_5, pX5_rings_6, pX5_rings_7, pX5_rings_8, pX5_rings_9, pX5_rings_11, pX5_rings_14, pX5_rings_15, pX5_rings_16, pX5_rings_19, pX5_rings_20, pX5_rings_21, pX5_rings_22, pX5_rings_23, pX5_rings_24, pX5_rings_25, pX5_rings_26, pX5_rings_29, pX5_rings_30, pX5_rings_31, pX5_rings_32, pX5_rings_35, pX5_rings_36, pX5_rings_37, pX5_rings_38, pX5_rings_41, pX5_rings_44, pX5_rings_45, nI_add, pk_mul, xn_sub, xn_and, xn_or, xn_xor, xn_shl, xn_shr, xn_lt, xn_le, xn_eq, xrf_some, xup_eq, xup_ne, xrow_eq, xrow_ne, Option.toList_some, Option.toList_none, List.singleton_append, List.nil_append, List.cons_append, xnl_n, xnl_i, xnl_r, Nat.zero_add, Nat.add_zero, ↓reduceIte, Nat.reduceEqDiff, Nat.reduceLeDiff, Nat.reduceAdd, Nat.reduceMul, Nat.reduceLT, Nat.one_ne_zero, eq_self, not_true_eq_false, not_false_eq_true, and_self]
      rfl
    | succ k ih =>
      intro i hn
      have h : ¬ 8 ≤ i := by omega
      have hi8 : i < 8 := by omega
      have h231 : 1 * 2 ^ i < 4294967296 := by
        have : 2 ^ i ≤ 2 ^ 8 := Nat.pow_le_pow_right (by decide) (by omega)
        omega
      have hfi : mW V t σ (t + 8) i = nI (pfar σ i) := mW_8 hi8
      have hb2 : pfar σ i < 2147483648 := Nat.lt_trans (pfar_lt hw i) (by decide)
      have hb4 : pfar σ i / 2 ^ i &&& 1 < 2147483648 := and1_lt _
      have ih2 := ih (i + 1) (by omega)
      rw [bm_s] at ih2
      rw [pX5_rings_8]
      by_cases hq : (pfar σ i).testBit i = true
      · have hq' : pfar σ i / 2 ^ i &&& 1 = 1 := (tb_and _ _).mpr hq
        rw [if_pos hq] at ih2
        simp (disch := (first | assumption | exact xnl_i _ | exact xnl_r _ | exact xnl_n | exact Bool.toNat_lt _ | exact hb _ | exact hb2 _ | omega | exact Nat.le_of_ble_eq_true rfl | rfl | decide)) only [pX5_rings_0, pX5_rings_1, pX5_rings_4, pX5_rings_5, pX5_rings_6, pX5_rings_7, pX5_rings_9, pX5_rings_11, pX5_rings_14, pX5_rings_15, pX5_rings_16, pX5_rings_19, pX5_rings_20, pX5_rings_21, pX5_rings_22, pX5_rings_23, pX5_rings_24, pX5_rings_25, pX5_rings_26, pX5_rings_29, pX5_rings_30, pX5_rings_31, pX5_rings_32, pX5_rings_35, pX5_rings_36, pX5_rings_37, pX5_rings_38, pX5_rings_41, pX5_rings_44, pX5_rings_45, nI_add, pk_mul, xn_sub, xn_and, xn_or, xn_xor, xn_shl, xn_shr, xn_lt, xn_le, xn_eq, xrf_some, xup_eq, xup_ne, xrow_eq, xrow_ne, Option.toList_some, Option.toList_none, List.singleton_append, List.nil_append, List.cons_append, xnl_n, xnl_i, xnl_r, Nat.zero_add, Nat.add_zero, ↓reduceIte, Nat.reduceEqDiff, Nat.reduceLeDiff, Nat.reduceAdd, Nat.reduceMul, Nat.reduceLT, Nat.one_ne_zero, eq_self, not_true_eq_false, not_false_eq_true, and_self, k0, r1, r2, r3, r5, r6, r7, r9, r10, r14, h, hfi, hq', Nat.one_mul]
        exact ih2
      · have hq' : ¬ pfar σ i / 2 ^ i &&& 1 = 1 := fun z => hq ((tb_and _ _).mp z)
        rw [if_neg hq] at ih2
        simp (disch := (first | assumption | exact xnl_i _ | exact xnl_r _ | exact xnl_n | exact Bool.toNat_lt _ | exact hb _ | exact hb2 _ | omega | exact Nat.le_of_ble_eq_true rfl | rfl | decide)) only [pX5_rings_0, pX5_rings_1, pX5_rings_4, pX5_rings_5, pX5_rings_6, pX5_rings_7, pX5_rings_9, pX5_rings_11, pX5_rings_14, pX5_rings_15, pX5_rings_16, pX5_rings_19, pX5_rings_20, pX5_rings_21, pX5_rings_22, pX5_rings_23, pX5_rings_24, pX5_rings_25, pX5_rings_26, pX5_rings_29, pX5_rings_30, pX5_rings_31, pX5_rings_32, pX5_rings_35, pX5_rings_36, pX5_rings_37, pX5_rings_38, pX5_rings_41, pX5_rings_44, pX5_rings_45, nI_add, pk_mul, xn_sub, xn_and, xn_or, xn_xor, xn_shl, xn_shr, xn_lt, xn_le, xn_eq, xrf_some, xup_eq, xup_ne, xrow_eq, xrow_ne, Option.toList_some, Option.toList_none, List.singleton_append, List.nil_append, List.cons_append, xnl_n, xnl_i, xnl_r, Nat.zero_add, Nat.add_zero, ↓reduceIte, Nat.reduceEqDiff, Nat.reduceLeDiff, Nat.reduceAdd, Nat.reduceMul, Nat.reduceLT, Nat.one_ne_zero, eq_self, not_true_eq_false, not_false_eq_true, and_self, k0, r1, r2, r3, r5, r6, r7, r9, r10, r14, h, hfi, hq']
        exact ih2
  show xX E mX5_rings 0 [some (.ref t), none, none] [] S V Q ↔ _
  simp (disch := (first | assumption | exact xnl_i _ | exact xnl_r _ | exact xnl_n | exact Bool.toNat_lt _ | exact hb _ | exact hb2 _ | omega | exact Nat.le_of_ble_eq_true rfl | rfl | decide)) only [pX5_rings_0, pX5_rings_1, pX5_rings_4, pX5_rings_5, pX5_rings_6, pX5_rings_7, nI_add, pk_mul, xn_sub, xn_and, xn_or, xn_xor, xn_shl, xn_shr, xn_lt, xn_le, xn_eq, xrf_some, xup_eq, xup_ne, xrow_eq, xrow_ne, Option.toList_some, Option.toList_none, List.singleton_append, List.nil_append, List.cons_append, xnl_n, xnl_i, xnl_r, Nat.zero_add, Nat.add_zero, ↓reduceIte, Nat.reduceEqDiff, Nat.reduceLeDiff, Nat.reduceAdd, Nat.reduceMul, Nat.reduceLT, Nat.one_ne_zero, eq_self, not_true_eq_false, not_false_eq_true, and_self, s_laysWaits hS hσ hw]
  exact loop 8 0 rfl
theorem s_count1 {s : Nat} (hs : s < 2147483648) : xC E mX5_count1 [.int (nI s)] S V Q ↔ Q (some (.int (nI (pcnt s 8)))) S V := by
  have loop : ∀ k i, i + k = 8 → (xX E mX5_count1 4 [some (.int (nI s)), some (.int (nI (pcnt s i))), some (.int (nI i))] [] S V Q ↔ Q (some (.int (nI (pcnt s 8)))) S V) := by
    intro k
    induction k with
    | zero =>
      intro i hn
      have hi : i = 8 := by omega
      subst hi
      simp (disch := (first | assumption | exact xnl_i _ | exact xnl_r _ | exact xnl_n | exact Bool.toNat_lt _ | exact hb _ | exact hb2 _ | omega | exact Nat.le_of_ble_eq_true rfl | rfl | decide)) only [pX5_count1_0, pX5_count1_1, pX5_count1_2, pX5_count1_3, pX5_count1_4, pX5_count1_5, pX5_count1_7, pX5_count1_10, pX5_count1_11, pX5_count1_12, pX5_count1_13, pX5_count1_14, pX5_count1_15, pX5_count1_16, pX5_count1_17, pX5_count1_18, pX5_count1_21, pX5_count1_24, pX5_count1_25, nI_add, pk_mul, xn_sub, xn_and, xn_or, xn_xor, xn_shl, xn_shr, xn_lt, xn_le, xn_eq, xrf_some, xup_eq, xup_ne, xrow_eq, xrow_ne, Option.toList_some, Option.toList_none, List.singleton_append, List.nil_append, List.cons_append, xnl_n, xnl_i, xnl_r, Nat.zero_add, Nat.add_zero, ↓reduceIte, Nat.reduceEqDiff, Nat.reduceLeDiff, Nat.reduceAdd, Nat.reduceMul, Nat.reduceLT, Nat.one_ne_zero, eq_self, not_true_eq_false, not_false_eq_true, and_self]
    | succ k ih =>
      intro i hn
      have h : ¬ 8 ≤ i := by omega
      have hi8 : i < 8 := by omega
      have ih2 := ih (i + 1) (by omega)
      rw [pX5_count1_4]
      simp (disch := (first | assumption | exact xnl_i _ | exact xnl_r _ | exact xnl_n | exact Bool.toNat_lt _ | exact hb _ | exact hb2 _ | omega | exact Nat.le_of_ble_eq_true rfl | rfl | decide)) only [pX5_count1_0, pX5_count1_1, pX5_count1_2, pX5_count1_3, pX5_count1_5, pX5_count1_7, pX5_count1_10, pX5_count1_11, pX5_count1_12, pX5_count1_13, pX5_count1_14, pX5_count1_15, pX5_count1_16, pX5_count1_17, pX5_count1_18, pX5_count1_21, pX5_count1_24, pX5_count1_25, nI_add, pk_mul, xn_sub, xn_and, xn_or, xn_xor, xn_shl, xn_shr, xn_lt, xn_le, xn_eq, xrf_some, xup_eq, xup_ne, xrow_eq, xrow_ne, Option.toList_some, Option.toList_none, List.singleton_append, List.nil_append, List.cons_append, xnl_n, xnl_i, xnl_r, Nat.zero_add, Nat.add_zero, ↓reduceIte, Nat.reduceEqDiff, Nat.reduceLeDiff, Nat.reduceAdd, Nat.reduceMul, Nat.reduceLT, Nat.one_ne_zero, eq_self, not_true_eq_false, not_false_eq_true, and_self, h, tb_and1]
      exact ih2
  show xX E mX5_count1 0 [some (.int (nI s)), none, none] [] S V Q ↔ _
  simp (disch := (first | assumption | exact xnl_i _ | exact xnl_r _ | exact xnl_n | exact Bool.toNat_lt _ | exact hb _ | exact hb2 _ | omega | exact Nat.le_of_ble_eq_true rfl | rfl | decide)) only [pX5_count1_0, pX5_count1_1, pX5_count1_2, pX5_count1_3, nI_add, pk_mul, xn_sub, xn_and, xn_or, xn_xor, xn_shl, xn_shr, xn_lt, xn_le, xn_eq, xrf_some, xup_eq, xup_ne, xrow_eq, xrow_ne, Option.toList_some, Option.toList_none, List.singleton_append, List.nil_append, List.cons_append, xnl_n, xnl_i, xnl_r, Nat.zero_add, Nat.add_zero, ↓reduceIte, Nat.reduceEqDiff, Nat.reduceLeDiff, Nat.reduceAdd, Nat.reduceMul, Nat.reduceLT, Nat.one_ne_zero, eq_self, not_true_eq_false, not_false_eq_true, and_self]
  exact loop 8 0 rfl
theorem s_sumOver (hS : mShape S t) (hσ : mV V t σ) {w : Nat} (hw : w < 62) : xC E mX5_sumOver [.ref t, .int (nI w)] S V Q ↔ Q (some (.int (nI (psum σ w 8)))) S V := by
  have hS' := hS; obtain ⟨k0, r1, r2, r3, r5, r6, r7, r9, r10, r14, k1, n1, k2, n2, k3, n3, k4, n4, k5, n5, k6, n6, k7, n7, k8, n8, k9, n9⟩ := hS'
  have hv : ∀ i, V (t + 1) i = nI (σ i) := hσ
  have loop : ∀ k i, i + k = 8 → (xX E mX5_sumOver 4 [some (.ref t), some (.int (nI w)), some (.int (nI (psum σ w i))), some (.int (nI i))] [] S V Q ↔ Q (some (.int (nI (psum σ w 8)))) S V) := by
    intro k
    induction k with
    | zero =>
      intro i hn
      have hi : i = 8 := by omega
      subst hi
      simp (disch := (first | assumption | exact xnl_i _ | exact xnl_r _ | exact xnl_n | exact Bool.toNat_lt _ | exact hb _ | exact hb2 _ | omega | exact Nat.le_of_ble_eq_true rfl | rfl | decide)) only [pX5_sumOver_0, pX5_sumOver_1, pX5_sumOver_2, pX5_sumOver_3, pX5_sumOver_4, pX5_sumOver_5, pX5_sumOver_7, pX5_sumOver_10, pX5_sumOver_11, pX5_sumOver_12, pX5_sumOver_13, pX5_sumOver_14, pX5_sumOver_17, pX5_sumOver_18, pX5_sumOver_19, pX5_sumOver_22, pX5_sumOver_25, pX5_sumOver_26, nI_add, pk_mul, xn_sub, xn_and, xn_or, xn_xor, xn_shl, xn_shr, xn_lt, xn_le, xn_eq, xrf_some, xup_eq, xup_ne, xrow_eq, xrow_ne, Option.toList_some, Option.toList_none, List.singleton_append, List.nil_append, List.cons_append, xnl_n, xnl_i, xnl_r, Nat.zero_add, Nat.add_zero, ↓reduceIte, Nat.reduceEqDiff, Nat.reduceLeDiff, Nat.reduceAdd, Nat.reduceMul, Nat.reduceLT, Nat.one_ne_zero, eq_self, not_true_eq_false, not_false_eq_true, and_self]
    | succ k ih =>
      intro i hn
      have h : ¬ 8 ≤ i := by omega
      have hi8 : i < 8 := by omega
      have ih2 := ih (i + 1) (by omega)
      rw [pX5_sumOver_4]
      simp (disch := (first | assumption | exact xnl_i _ | exact xnl_r _ | exact xnl_n | exact Bool.toNat_lt _ | exact hb _ | exact hb2 _ | omega | exact Nat.le_of_ble_eq_true rfl | rfl | decide)) only [pX5_sumOver_0, pX5_sumOver_1, pX5_sumOver_2, pX5_sumOver_3, pX5_sumOver_5, pX5_sumOver_7, pX5_sumOver_10, pX5_sumOver_11, pX5_sumOver_12, pX5_sumOver_13, pX5_sumOver_14, pX5_sumOver_17, pX5_sumOver_18, pX5_sumOver_19, pX5_sumOver_22, pX5_sumOver_25, pX5_sumOver_26, nI_add, pk_mul, xn_sub, xn_and, xn_or, xn_xor, xn_shl, xn_shr, xn_lt, xn_le, xn_eq, xrf_some, xup_eq, xup_ne, xrow_eq, xrow_ne, Option.toList_some, Option.toList_none, List.singleton_append, List.nil_append, List.cons_append, xnl_n, xnl_i, xnl_r, Nat.zero_add, Nat.add_zero, ↓reduceIte, Nat.reduceEqDiff, Nat.reduceLeDiff, Nat.reduceAdd, Nat.reduceMul, Nat.reduceLT, Nat.one_ne_zero, eq_self, not_true_eq_false, not_false_eq_true, and_self, h, s_get hS, hv]
      exact ih2
  show xX E mX5_sumOver 0 [some (.ref t), some (.int (nI w)), none, none] [] S V Q ↔ _
  simp (disch := (first | assumption | exact xnl_i _ | exact xnl_r _ | exact xnl_n | exact Bool.toNat_lt _ | exact hb _ | exact hb2 _ | omega | exact Nat.le_of_ble_eq_true rfl | rfl | decide)) only [pX5_sumOver_0, pX5_sumOver_1, pX5_sumOver_2, pX5_sumOver_3, nI_add, pk_mul, xn_sub, xn_and, xn_or, xn_xor, xn_shl, xn_shr, xn_lt, xn_le, xn_eq, xrf_some, xup_eq, xup_ne, xrow_eq, xrow_ne, Option.toList_some, Option.toList_none, List.singleton_append, List.nil_append, List.cons_append, xnl_n, xnl_i, xnl_r, Nat.zero_add, Nat.add_zero, ↓reduceIte, Nat.reduceEqDiff, Nat.reduceLeDiff, Nat.reduceAdd, Nat.reduceMul, Nat.reduceLT, Nat.one_ne_zero, eq_self, not_true_eq_false, not_false_eq_true, and_self]
  exact loop 8 0 rfl
end MSS
