/-! ===== the class: sets of contexts; who waits for whom ===== -/
theorem pst_0 {σ : Nat → Nat} {c : Nat} : pst σ c = 0 ↔ σ (62 * c) ≤ σ (62 * c + 1) := by
  unfold pst
  by_cases h : σ (62 * c) ≤ σ (62 * c + 1)
  · simp [h]
  · rw [if_neg h]
    constructor
    · intro z
      repeat' split at z
      all_goals omega
    · intro z; exact absurd z h
theorem pin_bit (σ : Nat → Nat) (q c : Nat) : (pin σ q).testBit c = (decide (c < 8) && decide (pst σ c = q)) := bm_bit _ 8 c
theorem pin_and {σ : Nat → Nat} {m : Nat} (hm : m < 256) : (pin σ 0 &&& m = m) ↔ ∀ c, c < 8 → m.testBit c = true → σ (62 * c) ≤ σ (62 * c + 1) := by
  constructor
  · intro h c hc hmc
    have := congrArg (fun x => x.testBit c) h
    simp only [Nat.testBit_and, hmc, pin_bit, hc, decide_true, Bool.true_and, Bool.and_true, decide_eq_true_eq] at this
    exact pst_0.mp this
  · intro h
    apply Nat.eq_of_testBit_eq
    intro c
    rw [Nat.testBit_and, pin_bit]
    by_cases hmc : m.testBit c = true
    · have hc8 : c < 8 := by
        by_cases hc : c < 8
        · exact hc
        · exfalso
          have h1 := Nat.testBit_lt_two_pow (x := m) (i := c) (Nat.lt_of_lt_of_le hm (Nat.pow_le_pow_right (n := 2) (i := 8) (by decide) (by omega)))
          rw [h1] at hmc; cases hmc
      rw [hmc, pst_0.mpr (h c hc8 hmc)]; simp [hc8]
    · have : m.testBit c = false := by simpa using hmc
      rw [this]; simp
theorem pin_255 {σ : Nat → Nat} : pin σ 0 = 255 ↔ ∀ c, c < 8 → pst σ c = 0 := by
  have e : (pin σ 0 = 255) ↔ (pin σ 0 &&& 255 = 255) := by
    have h1 : pin σ 0 &&& 255 = pin σ 0 := by
      rw [show 255 = 2 ^ 8 - 1 from rfl, Nat.and_two_pow_sub_one_eq_mod]
      exact Nat.mod_eq_of_lt (bm_lt _ 8)
    rw [h1]
  rw [e, pin_and (by decide)]
  constructor
  · intro h c hc
    have h255 : ∀ c : Nat, c < 8 → (255 : Nat).testBit c = true := by decide
    exact pst_0.mpr (h c hc (h255 c hc))
  · intro h c hc _; exact pst_0.mp (h c hc)
theorem pstuck_iff {σ : Nat → Nat} : pstuck σ = true ↔ (∃ c, c < 8 ∧ ¬ pst σ c = 0) ∧ ∀ c, c < 8 → ¬ pst σ c = 1 ∧ ¬ pst σ c = 2 := by
  unfold pstuck
  simp only [Bool.and_eq_true, decide_eq_true_eq]
  have h1 : ∀ q, pin σ q = 0 ↔ ∀ c, c < 8 → ¬ pst σ c = q := fun q => by
    unfold pin
    rw [bm_0]
    constructor
    · intro h c hc; have := h c hc; simpa using this
    · intro h c hc; simpa using h c hc
  rw [pin_255, h1, h1]
  constructor
  · rintro ⟨a, b, c⟩
    refine ⟨?_, fun d hd => ⟨b d hd, c d hd⟩⟩
    apply Classical.byContradiction
    intro z
    exact a (fun c hc => Classical.byContradiction (fun z2 => z ⟨c, hc, z2⟩))
  · rintro ⟨⟨c, hc, h⟩, h2⟩
    exact ⟨fun z => h (z c hc), fun d hd => (h2 d hd).1, fun d hd => (h2 d hd).2⟩
theorem pst_b (σ : Nat → Nat) (c : Nat) : pst σ c < 2147483648 := pst_lt σ c
section KWT
variable {E : Nat × Nat × Nat} {S : xSh} {V V' W : xV} {Q : Option Value → xSh → xV → Prop} {mb c : Nat} {σ : Nat → Nat}
theorem k_setIn (hS : kShape S mb) (hK : kN V mb σ) (hw : wf σ) {q : Nat} (hq : q < 6) : xC E mX2_setIn [.ref mb, .int (nI q)] S V Q ↔ Q (some (.int (nI (pin σ q)))) S V := by
  have hS' := hS; obtain ⟨mk0, mr0, mr1, mr2, mk1, mn1, mk2, mn2, mk3, mn3, mcs⟩ := hS'; have hb := wf_b hw
  have hb2 := pst_b σ
  have loop : ∀ k i, i + k = 8 → (xX E mX2_setIn 4 [some (.ref mb), some (.int (nI q)), some (.int (nI (bm (fun c => decide (pst σ c = q)) i))), some (.int (nI i))] [] S V Q ↔ Q (some (.int (nI (pin σ q)))) S V) := by
    intro k
    induction k with
    | zero =>
      intro i hn
      have hi : i = 8 := by omega
      subst hi
      simp (disch := (first | assumption | exact xnl_i _ | exact xnl_r _ | exact xnl_n | exact Bool.toNat_lt _ | exact hb _ | exact hb2 _ | omega | exact Nat.le_of_ble_eq_true rfl | rfl | decide)) only [pX2_setIn_0, pX2_setIn_1, pX2_setIn_2, pX2_setIn_3, pX2_setIn_4, pX2_setIn_5, pX2_setIn_7, pX2_setIn_10, pX2_setIn_11, pX2_setIn_12, pX2_setIn_15, pX2_setIn_16, pX2_setIn_19, pX2_setIn_20, pX2_setIn_21, pX2_setIn_22, pX2_setIn_23, pX2_setIn_24, pX2_setIn_25, pX2_setIn_28, pX2_setIn_31, pX2_setIn_32, nI_add, pk_mul, xn_sub, xn_and, xn_or, xn_xor, xn_shl, xn_shr, xn_lt, xn_le, xn_eq, xrf_some, xup_eq, xup_ne, xrow_eq, xrow_ne, Option.toList_some, Option.toList_none, List.singleton_append, List.nil_append, List.cons_append, xnl_n, xnl_i, xnl_r, Nat.zero_add, Nat.add_zero, ↓reduceIte, Nat.reduceEqDiff, Nat.reduceLeDiff, Nat.reduceAdd, Nat.reduceMul, Nat.reduceLT, Nat.one_ne_zero, eq_self, not_true_eq_false, not_false_eq_true, and_self]
      rfl
    | succ k ih =>
      intro i hn
      have h : ¬ 8 ≤ i := by omega
      have hi8 : i < 8 := by omega
      have h231 : 1 * 2 ^ i < 4294967296 := by
        have : 2 ^ i ≤ 2 ^ 8 := Nat.pow_le_pow_right (by decide) (by omega)
        omega
      have ih2 := ih (i + 1) (by omega)
      rw [bm_s] at ih2
      rw [pX2_setIn_4]
      by_cases h1 : pst σ i = q
      · simp only [h1, decide_true, if_true] at ih2
        simp (disch := (first | assumption | exact xnl_i _ | exact xnl_r _ | exact xnl_n | exact Bool.toNat_lt _ | exact hb _ | exact hb2 _ | omega | exact Nat.le_of_ble_eq_true rfl | rfl | decide)) only [pX2_setIn_0, pX2_setIn_1, pX2_setIn_2, pX2_setIn_3, pX2_setIn_5, pX2_setIn_7, pX2_setIn_10, pX2_setIn_11, pX2_setIn_12, pX2_setIn_15, pX2_setIn_16, pX2_setIn_19, pX2_setIn_20, pX2_setIn_21, pX2_setIn_22, pX2_setIn_23, pX2_setIn_24, pX2_setIn_25, pX2_setIn_28, pX2_setIn_31, pX2_setIn_32, nI_add, pk_mul, xn_sub, xn_and, xn_or, xn_xor, xn_shl, xn_shr, xn_lt, xn_le, xn_eq, xrf_some, xup_eq, xup_ne, xrow_eq, xrow_ne, Option.toList_some, Option.toList_none, List.singleton_append, List.nil_append, List.cons_append, xnl_n, xnl_i, xnl_r, Nat.zero_add, Nat.add_zero, ↓reduceIte, Nat.reduceEqDiff, Nat.reduceLeDiff, Nat.reduceAdd, Nat.reduceMul, Nat.reduceLT, Nat.one_ne_zero, eq_self, not_true_eq_false, not_false_eq_true, and_self, mk0, mr0, mr1, mr2, h, k_stateOf hS hK hw, h1, Nat.one_mul]
        exact ih2
      · simp only [h1, decide_false, Bool.false_eq_true, if_false, Nat.or_zero] at ih2
        simp (disch := (first | assumption | exact xnl_i _ | exact xnl_r _ | exact xnl_n | exact Bool.toNat_lt _ | exact hb _ | exact hb2 _ | omega | exact Nat.le_of_ble_eq_true rfl | rfl | decide)) only [pX2_setIn_0, pX2_setIn_1, pX2_setIn_2, pX2_setIn_3, pX2_setIn_5, pX2_setIn_7, pX2_setIn_10, pX2_setIn_11, pX2_setIn_12, pX2_setIn_15, pX2_setIn_16, pX2_setIn_19, pX2_setIn_20, pX2_setIn_21, pX2_setIn_22, pX2_setIn_23, pX2_setIn_24, pX2_setIn_25, pX2_setIn_28, pX2_setIn_31, pX2_setIn_32, nI_add, pk_mul, xn_sub, xn_and, xn_or, xn_xor, xn_shl, xn_shr, xn_lt, xn_le, xn_eq, xrf_some, xup_eq, xup_ne, xrow_eq, xrow_ne, Option.toList_some, Option.toList_none, List.singleton_append, List.nil_append, List.cons_append, xnl_n, xnl_i, xnl_r, Nat.zero_add, Nat.add_zero, ↓reduceIte, Nat.reduceEqDiff, Nat.reduceLeDiff, Nat.reduceAdd, Nat.reduceMul, Nat.reduceLT, Nat.one_ne_zero, eq_self, not_true_eq_false, not_false_eq_true, and_self, mk0, mr0, mr1, mr2, h, k_stateOf hS hK hw, h1]
        exact ih2
  show xX E mX2_setIn 0 [some (.ref mb), some (.int (nI q)), none, none] [] S V Q ↔ _
  simp (disch := (first | assumption | exact xnl_i _ | exact xnl_r _ | exact xnl_n | exact Bool.toNat_lt _ | exact hb _ | exact hb2 _ | omega | exact Nat.le_of_ble_eq_true rfl | rfl | decide)) only [pX2_setIn_0, pX2_setIn_1, pX2_setIn_2, pX2_setIn_3, nI_add, pk_mul, xn_sub, xn_and, xn_or, xn_xor, xn_shl, xn_shr, xn_lt, xn_le, xn_eq, xrf_some, xup_eq, xup_ne, xrow_eq, xrow_ne, Option.toList_some, Option.toList_none, List.singleton_append, List.nil_append, List.cons_append, xnl_n, xnl_i, xnl_r, Nat.zero_add, Nat.add_zero, ↓reduceIte, Nat.reduceEqDiff, Nat.reduceLeDiff, Nat.reduceAdd, Nat.reduceMul, Nat.reduceLT, Nat.one_ne_zero, eq_self, not_true_eq_false, not_false_eq_true, and_self]
  exact loop 8 0 rfl
theorem k_areDone (hS : kShape S mb) (hK : kN V mb σ) (hw : wf σ) {m : Nat} (hm : m < 256) : xC E mX2_areDone [.ref mb, .int (nI m)] S V Q ↔ Q (some (.int (nI (decide (pin σ 0 &&& m = m)).toNat))) S V := by
  have hS' := hS; obtain ⟨mk0, mr0, mr1, mr2, mk1, mn1, mk2, mn2, mk3, mn3, mcs⟩ := hS'; have hb := wf_b hw
  have hm2 : m < 2147483648 := by omega
  have loop : ∀ k i, i + k = 8 → (∀ c, c < i → m.testBit c = true → σ (62 * c) ≤ σ (62 * c + 1)) → (xX E mX2_areDone 2 [some (.ref mb), some (.int (nI m)), some (.int (nI i))] [] S V Q ↔ Q (some (.int (nI (decide (pin σ 0 &&& m = m)).toNat))) S V) := by
    intro k
    induction k with
    | zero =>
      intro i hn hall
      have hi : i = 8 := by omega
      subst hi
      rw [decide_eq_true (pin_and (σ := σ) hm |>.mpr hall)]
      simp (disch := (first | assumption | exact xnl_i _ | exact xnl_r _ | exact xnl_n | exact Bool.toNat_lt _ | exact hb _ | exact hb2 _ | omega | exact Nat.le_of_ble_eq_true rfl | rfl | decide)) only [pX2_areDone_0, pX2_areDone_1, pX2_areDone_2, pX2_areDone_3, pX2_areDone_5, pX2_areDone_8, pX2_areDone_9, pX2_areDone_10, pX2_areDone_13, pX2_areDone_16, pX2_areDone_17, pX2_areDone_20, pX2_areDone_21, pX2_areDone_22, pX2_areDone_25, pX2_areDone_26, pX2_areDone_29, pX2_areDone_30, pX2_areDone_31, pX2_areDone_34, pX2_areDone_37, pX2_areDone_38, pX2_areDone_39, pX2_areDone_42, pX2_areDone_45, pX2_areDone_46, nI_add, pk_mul, xn_sub, xn_and, xn_or, xn_xor, xn_shl, xn_shr, xn_lt, xn_le, xn_eq, xrf_some, xup_eq, xup_ne, xrow_eq, xrow_ne, Option.toList_some, Option.toList_none, List.singleton_append, List.nil_append, List.cons_append, xnl_n, xnl_i, xnl_r, Nat.zero_add, Nat.add_zero, ↓reduceIte, Nat.reduceEqDiff, Nat.reduceLeDiff, Nat.reduceAdd, Nat.reduceMul, Nat.reduceLT, Nat.one_ne_zero, eq_self, not_true_eq_false, not_false_eq_true, and_self, Bool.toNat_true]
    | succ k ih =>
      intro i hn hall
      have h : ¬ 8 ≤ i := by omega
      have hi8 : i < 8 := by omega
      obtain ⟨mrc, hcs⟩ := mcs i hi8
      have ck0 := hcs.1
      obtain ⟨c4, c5, c6, c7, c8, c9, c10, ca, cb, cc, cd⟩ := hK.1 i hi8
      rw [pX2_areDone_2]
      cases hmb : m.testBit i with
      | true =>
        by_cases hd : σ (62 * i) ≤ σ (62 * i + 1)
        · have ih2 := ih (i + 1) (by omega) (fun c hc hmc => by
            by_cases hci : c = i
            · subst hci; exact hd
            · exact hall c (by omega) hmc)
          simp (disch := (first | assumption | exact xnl_i _ | exact xnl_r _ | exact xnl_n | exact Bool.toNat_lt _ | exact hb _ | exact hb2 _ | omega | exact Nat.le_of_ble_eq_true rfl | rfl | decide)) only [pX2_areDone_0, pX2_areDone_1, pX2_areDone_3, pX2_areDone_5, pX2_areDone_8, pX2_areDone_9, pX2_areDone_10, pX2_areDone_13, pX2_areDone_16, pX2_areDone_17, pX2_areDone_20, pX2_areDone_21, pX2_areDone_22, pX2_areDone_25, pX2_areDone_26, pX2_areDone_29, pX2_areDone_30, pX2_areDone_31, pX2_areDone_34, pX2_areDone_37, pX2_areDone_38, pX2_areDone_39, pX2_areDone_42, pX2_areDone_45, pX2_areDone_46, nI_add, pk_mul, xn_sub, xn_and, xn_or, xn_xor, xn_shl, xn_shr, xn_lt, xn_le, xn_eq, xrf_some, xup_eq, xup_ne, xrow_eq, xrow_ne, Option.toList_some, Option.toList_none, List.singleton_append, List.nil_append, List.cons_append, xnl_n, xnl_i, xnl_r, Nat.zero_add, Nat.add_zero, ↓reduceIte, Nat.reduceEqDiff, Nat.reduceLeDiff, Nat.reduceAdd, Nat.reduceMul, Nat.reduceLT, Nat.one_ne_zero, eq_self, not_true_eq_false, not_false_eq_true, and_self, mk0, mr0, mr1, mr2, h, s_has, hmb, Bool.toNat_true, mrc, ck0, c4, c6, hd]
          exact ih2
        · have hf : ¬ (pin σ 0 &&& m = m) := fun z => hd (pin_and hm |>.mp z i hi8 hmb)
          rw [decide_eq_false hf]
          simp (disch := (first | assumption | exact xnl_i _ | exact xnl_r _ | exact xnl_n | exact Bool.toNat_lt _ | exact hb _ | exact hb2 _ | omega | exact Nat.le_of_ble_eq_true rfl | rfl | decide)) only [pX2_areDone_0, pX2_areDone_1, pX2_areDone_3, pX2_areDone_5, pX2_areDone_8, pX2_areDone_9, pX2_areDone_10, pX2_areDone_13, pX2_areDone_16, pX2_areDone_17, pX2_areDone_20, pX2_areDone_21, pX2_areDone_22, pX2_areDone_25, pX2_areDone_26, pX2_areDone_29, pX2_areDone_30, pX2_areDone_31, pX2_areDone_34, pX2_areDone_37, pX2_areDone_38, pX2_areDone_39, pX2_areDone_42, pX2_areDone_45, pX2_areDone_46, nI_add, pk_mul, xn_sub, xn_and, xn_or, xn_xor, xn_shl, xn_shr, xn_lt, xn_le, xn_eq, xrf_some, xup_eq, xup_ne, xrow_eq, xrow_ne, Option.toList_some, Option.toList_none, List.singleton_append, List.nil_append, List.cons_append, xnl_n, xnl_i, xnl_r, Nat.zero_add, Nat.add_zero, ↓reduceIte, Nat.reduceEqDiff, Nat.reduceLeDiff, Nat.reduceAdd, Nat.reduceMul, Nat.reduceLT, Nat.one_ne_zero, eq_self, not_true_eq_false, not_false_eq_true, and_self, mk0, mr0, mr1, mr2, h, s_has, hmb, Bool.toNat_true, Bool.toNat_false, mrc, ck0, c4, c6, hd]
      | false =>
        have ih2 := ih (i + 1) (by omega) (fun c hc hmc => by
            by_cases hci : c = i
            · subst hci; rw [hmb] at hmc; cases hmc
            · exact hall c (by omega) hmc)
        simp (disch := (first | assumption | exact xnl_i _ | exact xnl_r _ | exact xnl_n | exact Bool.toNat_lt _ | exact hb _ | exact hb2 _ | omega | exact Nat.le_of_ble_eq_true rfl | rfl | decide)) only [pX2_areDone_0, pX2_areDone_1, pX2_areDone_3, pX2_areDone_5, pX2_areDone_8, pX2_areDone_9, pX2_areDone_10, pX2_areDone_13, pX2_areDone_16, pX2_areDone_17, pX2_areDone_20, pX2_areDone_21, pX2_areDone_22, pX2_areDone_25, pX2_areDone_26, pX2_areDone_29, pX2_areDone_30, pX2_areDone_31, pX2_areDone_34, pX2_areDone_37, pX2_areDone_38, pX2_areDone_39, pX2_areDone_42, pX2_areDone_45, pX2_areDone_46, nI_add, pk_mul, xn_sub, xn_and, xn_or, xn_xor, xn_shl, xn_shr, xn_lt, xn_le, xn_eq, xrf_some, xup_eq, xup_ne, xrow_eq, xrow_ne, Option.toList_some, Option.toList_none, List.singleton_append, List.nil_append, List.cons_append, xnl_n, xnl_i, xnl_r, Nat.zero_add, Nat.add_zero, ↓reduceIte, Nat.reduceEqDiff, Nat.reduceLeDiff, Nat.reduceAdd, Nat.reduceMul, Nat.reduceLT, Nat.one_ne_zero, eq_self, not_true_eq_false, not_false_eq_true, and_self, mk0, mr0, mr1, mr2, h, s_has, hmb, Bool.toNat_false]
        exact ih2
  show xX E mX2_areDone 0 [some (.ref mb), some (.int (nI m)), none] [] S V Q ↔ _
  simp (disch := (first | assumption | exact xnl_i _ | exact xnl_r _ | exact xnl_n | exact Bool.toNat_lt _ | exact hb _ | exact hb2 _ | omega | exact Nat.le_of_ble_eq_true rfl | rfl | decide)) only [pX2_areDone_0, pX2_areDone_1, nI_add, pk_mul, xn_sub, xn_and, xn_or, xn_xor, xn_shl, xn_shr, xn_lt, xn_le, xn_eq, xrf_some, xup_eq, xup_ne, xrow_eq, xrow_ne, Option.toList_some, Option.toList_none, List.singleton_append, List.nil_append, List.cons_append, xnl_n, xnl_i, xnl_r, Nat.zero_add, Nat.add_zero, ↓reduceIte, Nat.reduceEqDiff, Nat.reduceLeDiff, Nat.reduceAdd, Nat.reduceMul, Nat.reduceLT, Nat.one_ne_zero, eq_self, not_true_eq_false, not_false_eq_true, and_self]
  exact loop 8 0 rfl (fun c hc => by omega)
theorem k_isStuck (hS : kShape S mb) (hK : kN V mb σ) (hw : wf σ) : xC E mX2_isStuck [.ref mb] S V Q ↔ Q (some (.int (nI (pstuck σ).toNat))) S V := by
  have hS' := hS; obtain ⟨mk0, mr0, mr1, mr2, mk1, mn1, mk2, mn2, mk3, mn3, mcs⟩ := hS'; have hb := wf_b hw
  have hb2 := pst_b σ
  have loop : ∀ k i (f : Bool) l3, i + k = 8 → (∀ c, c < i → ¬ pst σ c = 1 ∧ ¬ pst σ c = 2) → (f = true ↔ ∃ c, c < i ∧ ¬ pst σ c = 0) → (xX E mX2_isStuck 4 [some (.ref mb), some (.int (nI f.toNat)), some (.int (nI i)), l3] [] S V Q ↔ Q (some (.int (nI (pstuck σ).toNat))) S V) := by
    intro k
    induction k with
    | zero =>
      intro i f l3 hn hall hf
      have hi : i = 8 := by omega
      subst hi
      have e : pstuck σ = f := by
        cases f with
        | true => exact pstuck_iff.mpr ⟨hf.mp rfl, hall⟩
        | false =>
          have : ¬ pstuck σ = true := fun z => by have := hf.mpr (pstuck_iff.mp z).1; cases this
          simpa using this
      have hf2 : f.toNat < 2 := Bool.toNat_lt _
      rw [e]
      simp (disch := (first | assumption | exact xnl_i _ | exact xnl_r _ | exact xnl_n | exact Bool.toNat_lt _ | exact hb _ | exact hb2 _ | omega | exact Nat.le_of_ble_eq_true rfl | rfl | decide)) only [pX2_isStuck_0, pX2_isStuck_1, pX2_isStuck_2, pX2_isStuck_3, pX2_isStuck_4, pX2_isStuck_5, pX2_isStuck_7, pX2_isStuck_10, pX2_isStuck_11, pX2_isStuck_12, pX2_isStuck_15, pX2_isStuck_16, pX2_isStuck_17, pX2_isStuck_18, pX2_isStuck_21, pX2_isStuck_22, pX2_isStuck_23, pX2_isStuck_26, pX2_isStuck_27, pX2_isStuck_28, pX2_isStuck_29, pX2_isStuck_32, pX2_isStuck_33, pX2_isStuck_36, pX2_isStuck_37, pX2_isStuck_40, pX2_isStuck_41, pX2_isStuck_42, pX2_isStuck_45, pX2_isStuck_48, pX2_isStuck_49, nI_add, pk_mul, xn_sub, xn_and, xn_or, xn_xor, xn_shl, xn_shr, xn_lt, xn_le, xn_eq, xrf_some, xup_eq, xup_ne, xrow_eq, xrow_ne, Option.toList_some, Option.toList_none, List.singleton_append, List.nil_append, List.cons_append, xnl_n, xnl_i, xnl_r, Nat.zero_add, Nat.add_zero, ↓reduceIte, Nat.reduceEqDiff, Nat.reduceLeDiff, Nat.reduceAdd, Nat.reduceMul, Nat.reduceLT, Nat.one_ne_zero, eq_self, not_true_eq_false, not_false_eq_true, and_self]
    | succ k ih =>
      intro i f l3 hn hall hf
      have h : ¬ 8 ≤ i := by omega
      have hi8 : i < 8 := by omega
      rw [pX2_isStuck_4]
      by_cases h1 : pst σ i = 1
      · have e : pstuck σ = false := by
          have : ¬ pstuck σ = true := fun z => ((pstuck_iff.mp z).2 i hi8).1 h1
          simpa using this
        rw [e]
        simp (disch := (first | assumption | exact xnl_i _ | exact xnl_r _ | exact xnl_n | exact Bool.toNat_lt _ | exact hb _ | exact hb2 _ | omega | exact Nat.le_of_ble_eq_true rfl | rfl | decide)) only [pX2_isStuck_0, pX2_isStuck_1, pX2_isStuck_2, pX2_isStuck_3, pX2_isStuck_5, pX2_isStuck_7, pX2_isStuck_10, pX2_isStuck_11, pX2_isStuck_12, pX2_isStuck_15, pX2_isStuck_16, pX2_isStuck_17, pX2_isStuck_18, pX2_isStuck_21, pX2_isStuck_22, pX2_isStuck_23, pX2_isStuck_26, pX2_isStuck_27, pX2_isStuck_28, pX2_isStuck_29, pX2_isStuck_32, pX2_isStuck_33, pX2_isStuck_36, pX2_isStuck_37, pX2_isStuck_40, pX2_isStuck_41, pX2_isStuck_42, pX2_isStuck_45, pX2_isStuck_48, pX2_isStuck_49, nI_add, pk_mul, xn_sub, xn_and, xn_or, xn_xor, xn_shl, xn_shr, xn_lt, xn_le, xn_eq, xrf_some, xup_eq, xup_ne, xrow_eq, xrow_ne, Option.toList_some, Option.toList_none, List.singleton_append, List.nil_append, List.cons_append, xnl_n, xnl_i, xnl_r, Nat.zero_add, Nat.add_zero, ↓reduceIte, Nat.reduceEqDiff, Nat.reduceLeDiff, Nat.reduceAdd, Nat.reduceMul, Nat.reduceLT, Nat.one_ne_zero, eq_self, not_true_eq_false, not_false_eq_true, and_self, mk0, mr0, mr1, mr2, h, k_stateOf hS hK hw, h1, Bool.toNat_false]
      · by_cases h2 : pst σ i = 2
        · have e : pstuck σ = false := by
            have : ¬ pstuck σ = true := fun z => ((pstuck_iff.mp z).2 i hi8).2 h2
            simpa using this
          rw [e]
          simp (disch := (first | assumption | exact xnl_i _ | exact xnl_r _ | exact xnl_n | exact Bool.toNat_lt _ | exact hb _ | exact hb2 _ | omega | exact Nat.le_of_ble_eq_true rfl | rfl | decide)) only [pX2_isStuck_0, pX2_isStuck_1, pX2_isStuck_2, pX2_isStuck_3, pX2_isStuck_5, pX2_isStuck_7, pX2_isStuck_10, pX2_isStuck_11, pX2_isStuck_12, pX2_isStuck_15, pX2_isStuck_16, pX2_isStuck_17, pX2_isStuck_18, pX2_isStuck_21, pX2_isStuck_22, pX2_isStuck_23, pX2_isStuck_26, pX2_isStuck_27, pX2_isStuck_28, pX2_isStuck_29, pX2_isStuck_32, pX2_isStuck_33, pX2_isStuck_36, pX2_isStuck_37, pX2_isStuck_40, pX2_isStuck_41, pX2_isStuck_42, pX2_isStuck_45, pX2_isStuck_48, pX2_isStuck_49, nI_add, pk_mul, xn_sub, xn_and, xn_or, xn_xor, xn_shl, xn_shr, xn_lt, xn_le, xn_eq, xrf_some, xup_eq, xup_ne, xrow_eq, xrow_ne, Option.toList_some, Option.toList_none, List.singleton_append, List.nil_append, List.cons_append, xnl_n, xnl_i, xnl_r, Nat.zero_add, Nat.add_zero, ↓reduceIte, Nat.reduceEqDiff, Nat.reduceLeDiff, Nat.reduceAdd, Nat.reduceMul, Nat.reduceLT, Nat.one_ne_zero, eq_self, not_true_eq_false, not_false_eq_true, and_self, mk0, mr0, mr1, mr2, h, k_stateOf hS hK hw, h2, Bool.toNat_false]
        · have hall2 : ∀ c, c < i + 1 → ¬ pst σ c = 1 ∧ ¬ pst σ c = 2 := fun c hc => by
            by_cases hci : c = i
            · subst hci; exact ⟨h1, h2⟩
            · exact hall c (by omega)
          cases f with
          | true =>
            have ih2 := fun l3 => ih (i + 1) true l3 (by omega) hall2 ⟨fun _ => by obtain ⟨c, hc, hz⟩ := hf.mp rfl; exact ⟨c, by omega, hz⟩, fun _ => rfl⟩
            simp (disch := (first | assumption | exact xnl_i _ | exact xnl_r _ | exact xnl_n | exact Bool.toNat_lt _ | exact hb _ | exact hb2 _ | omega | exact Nat.le_of_ble_eq_true rfl | rfl | decide)) only [pX2_isStuck_0, pX2_isStuck_1, pX2_isStuck_2, pX2_isStuck_3, pX2_isStuck_5, pX2_isStuck_7, pX2_isStuck_10, pX2_isStuck_11, pX2_isStuck_12, pX2_isStuck_15, pX2_isStuck_16, pX2_isStuck_17, pX2_isStuck_18, pX2_isStuck_21, pX2_isStuck_22, pX2_isStuck_23, pX2_isStuck_26, pX2_isStuck_27, pX2_isStuck_28, pX2_isStuck_29, pX2_isStuck_32, pX2_isStuck_33, pX2_isStuck_36, pX2_isStuck_37, pX2_isStuck_40, pX2_isStuck_41, pX2_isStuck_42, pX2_isStuck_45, pX2_isStuck_48, pX2_isStuck_49, nI_add, pk_mul, xn_sub, xn_and, xn_or, xn_xor, xn_shl, xn_shr, xn_lt, xn_le, xn_eq, xrf_some, xup_eq, xup_ne, xrow_eq, xrow_ne, Option.toList_some, Option.toList_none, List.singleton_append, List.nil_append, List.cons_append, xnl_n, xnl_i, xnl_r, Nat.zero_add, Nat.add_zero, ↓reduceIte, Nat.reduceEqDiff, Nat.reduceLeDiff, Nat.reduceAdd, Nat.reduceMul, Nat.reduceLT, Nat.one_ne_zero, eq_self, not_true_eq_false, not_false_eq_true, and_self, mk0, mr0, mr1, mr2, h, k_stateOf hS hK hw, h1, h2, Bool.toNat_true]
            exact ih2 _
          | false =>
            by_cases h0 : pst σ i = 0
            · have ih2 := fun l3 => ih (i + 1) false l3 (by omega) hall2 ⟨fun z => (by cases z), fun ⟨c, hc, hz⟩ => by
                by_cases hci : c = i
                · subst hci; exact absurd h0 hz
                · exact hf.mpr ⟨c, by omega, hz⟩⟩
              simp (disch := (first | assumption | exact xnl_i _ | exact xnl_r _ | exact xnl_n | exact Bool.toNat_lt _ | exact hb _ | exact hb2 _ | omega | exact Nat.le_of_ble_eq_true rfl | rfl | decide)) only [pX2_isStuck_0, pX2_isStuck_1, pX2_isStuck_2, pX2_isStuck_3, pX2_isStuck_5, pX2_isStuck_7, pX2_isStuck_10, pX2_isStuck_11, pX2_isStuck_12, pX2_isStuck_15, pX2_isStuck_16, pX2_isStuck_17, pX2_isStuck_18, pX2_isStuck_21, pX2_isStuck_22, pX2_isStuck_23, pX2_isStuck_26, pX2_isStuck_27, pX2_isStuck_28, pX2_isStuck_29, pX2_isStuck_32, pX2_isStuck_33, pX2_isStuck_36, pX2_isStuck_37, pX2_isStuck_40, pX2_isStuck_41, pX2_isStuck_42, pX2_isStuck_45, pX2_isStuck_48, pX2_isStuck_49, nI_add, pk_mul, xn_sub, xn_and, xn_or, xn_xor, xn_shl, xn_shr, xn_lt, xn_le, xn_eq, xrf_some, xup_eq, xup_ne, xrow_eq, xrow_ne, Option.toList_some, Option.toList_none, List.singleton_append, List.nil_append, List.cons_append, xnl_n, xnl_i, xnl_r, Nat.zero_add, Nat.add_zero, ↓reduceIte, Nat.reduceEqDiff, Nat.reduceLeDiff, Nat.reduceAdd, Nat.reduceMul, Nat.reduceLT, Nat.one_ne_zero, eq_self, not_true_eq_false, not_false_eq_true, and_self, mk0, mr0, mr1, mr2, h, k_stateOf hS hK hw, h0, Bool.toNat_false]
              exact ih2 _
            · have ih2 := fun l3 => ih (i + 1) true l3 (by omega) hall2 ⟨fun _ => ⟨i, by omega, h0⟩, fun _ => rfl⟩
              simp (disch := (first | assumption | exact xnl_i _ | exact xnl_r _ | exact xnl_n | exact Bool.toNat_lt _ | exact hb _ | exact hb2 _ | omega | exact Nat.le_of_ble_eq_true rfl | rfl | decide)) only [pX2_isStuck_0, pX2_isStuck_1, pX2_isStuck_2, pX2_isStuck_3, pX2_isStuck_5, pX2_isStuck_7, pX2_isStuck_10, pX2_isStuck_11, pX2_isStuck_12, pX2_isStuck_15, pX2_isStuck_16, pX2_isStuck_17, pX2_isStuck_18, pX2_isStuck_21, pX2_isStuck_22, pX2_isStuck_23, pX2_isStuck_26, pX2_isStuck_27, pX2_isStuck_28, pX2_isStuck_29, pX2_isStuck_32, pX2_isStuck_33, pX2_isStuck_36, pX2_isStuck_37, pX2_isStuck_40, pX2_isStuck_41, pX2_isStuck_42, pX2_isStuck_45, pX2_isStuck_48, pX2_isStuck_49, nI_add, pk_mul, xn_sub, xn_and, xn_or, xn_xor, xn_shl, xn_shr, xn_lt, xn_le, xn_eq, xrf_some, xup_eq, xup_ne, xrow_eq, xrow_ne, Option.toList_some, Option.toList_none, List.singleton_append, List.nil_append, List.cons_append, xnl_n, xnl_i, xnl_r, Nat.zero_add, Nat.add_zero, ↓reduceIte, Nat.reduceEqDiff, Nat.reduceLeDiff, Nat.reduceAdd, Nat.reduceMul, Nat.reduceLT, Nat.one_ne_zero, eq_self, not_true_eq_false, not_false_eq_true, and_self, mk0, mr0, mr1, mr2, h, k_stateOf hS hK hw, h1, h2, h0, Bool.toNat_false]
              exact ih2 _
  show xX E mX2_isStuck 0 [some (.ref mb), none, none, none] [] S V Q ↔ _
  simp (disch := (first | assumption | exact xnl_i _ | exact xnl_r _ | exact xnl_n | exact Bool.toNat_lt _ | exact hb _ | exact hb2 _ | omega | exact Nat.le_of_ble_eq_true rfl | rfl | decide)) only [pX2_isStuck_0, pX2_isStuck_1, pX2_isStuck_2, pX2_isStuck_3, nI_add, pk_mul, xn_sub, xn_and, xn_or, xn_xor, xn_shl, xn_shr, xn_lt, xn_le, xn_eq, xrf_some, xup_eq, xup_ne, xrow_eq, xrow_ne, Option.toList_some, Option.toList_none, List.singleton_append, List.nil_append, List.cons_append, xnl_n, xnl_i, xnl_r, Nat.zero_add, Nat.add_zero, ↓reduceIte, Nat.reduceEqDiff, Nat.reduceLeDiff, Nat.reduceAdd, Nat.reduceMul, Nat.reduceLT, Nat.one_ne_zero, eq_self, not_true_eq_false, not_false_eq_true, and_self]
  exact loop 8 0 false none rfl (fun c hc => by omega) ⟨fun z => (by cases z), fun ⟨c, hc, _⟩ => by omega⟩
end KWT

