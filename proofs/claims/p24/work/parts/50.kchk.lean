/-! ===== the class: what its calls check ===== -/
def oRep (E : Nat × Nat × Nat) (S : xSh) (V : xV) (x : Nat) : Prop :=
  xkd S E.1 = 14 ∧ xln S E.1 = 7 ∧ (∀ k, k < 7 → V E.1 k = nI (if k = 6 then 1 else 0)) ∧ xkd S E.2.1 = 14 ∧ xln S E.2.1 = 7 ∧ (∀ k, k < 7 → V E.2.1 k = nI (if k = 0 then 99 else if k = 1 then 7 else if k = 2 then 0 else if k = 3 then 3 else if k = 4 then 3 else if k = 5 then 99 else 15)) ∧ E.1 < x ∧ E.2.1 < x
theorem xlt_le {v : Int32} {k : Nat} (hk : k + 1 < 2147483648) (h : nI k < v) : nI (k + 1) ≤ v := by
  rw [Int32.lt_iff_toInt_lt, xn_toInt (by omega)] at h
  rw [Int32.le_iff_toInt_le, xn_toInt hk]
  omega
theorem xlt_no {v : Int32} {k : Nat} (h : nI k < v) : ¬ v < nI k := fun z => absurd (Int32.lt_trans h z) (Int32.lt_irrefl)
section KCK
variable {E : Nat × Nat × Nat} {S : xSh} {V V' W : xV} {Q : Option Value → xSh → xV → Prop} {x : Nat} {g : pG}
theorem xlt_0 {v : Int32} {k : Nat} (hk : k < 2147483648) (h : nI k < v) : ¬ v < nI 0 := fun z => by
  rw [Int32.lt_iff_toInt_lt, xn_toInt hk] at h
  rw [Int32.lt_iff_toInt_lt, xn_toInt (by decide)] at z
  omega
theorem k_isContext {v : Int32} : xC E mX4_isContext [.int v] S V Q ↔ if nI 0 ≤ v ∧ v ≤ nI 7 then Q (some (.int (nI 1))) S V else Q (some (.int (nI 0))) S V := by
  show xX E mX4_isContext 0 [some (.int v)] [] S V Q ↔ _
  rcases xrng v 0 7 (by decide) (by decide) with ⟨c, _, hc, rfl⟩ | ⟨hn, h | h⟩
  · have h1 := rng_n (Nat.zero_le c) hc (by decide)
    have h2 : ¬ 8 ≤ c := by omega
    rw [if_pos h1]
    simp (disch := (first | assumption | exact xnl_i _ | exact xnl_r _ | exact xnl_n | exact Bool.toNat_lt _ | exact hb _ | exact hb2 _ | omega | exact Nat.le_of_ble_eq_true rfl | rfl | decide)) only [pX4_isContext_0, pX4_isContext_1, pX4_isContext_4, pX4_isContext_5, pX4_isContext_7, pX4_isContext_10, pX4_isContext_11, pX4_isContext_14, pX4_isContext_15, nI_add, pk_mul, xn_sub, xn_and, xn_or, xn_xor, xn_shl, xn_shr, xn_lt, xn_le, xn_eq, xrf_some, xup_eq, xup_ne, xrow_eq, xrow_ne, Option.toList_some, Option.toList_none, List.singleton_append, List.nil_append, List.cons_append, xnl_n, xnl_i, xnl_r, Nat.zero_add, Nat.add_zero, ↓reduceIte, Nat.reduceEqDiff, Nat.reduceLeDiff, Nat.reduceAdd, Nat.reduceMul, Nat.reduceLT, Nat.one_ne_zero, eq_self, not_true_eq_false, not_false_eq_true, and_self, Nat.not_lt_zero, h2]
  · rw [if_neg hn]
    simp (disch := (first | assumption | exact xnl_i _ | exact xnl_r _ | exact xnl_n | exact Bool.toNat_lt _ | exact hb _ | exact hb2 _ | omega | exact Nat.le_of_ble_eq_true rfl | rfl | decide)) only [pX4_isContext_0, pX4_isContext_1, pX4_isContext_4, pX4_isContext_5, pX4_isContext_7, pX4_isContext_10, pX4_isContext_11, pX4_isContext_14, pX4_isContext_15, h, if_true]
  · have h0 := xlt_0 (by decide) h
    have h1 := xlt_le (by decide) h
    rw [if_neg hn]
    simp (disch := (first | assumption | exact xnl_i _ | exact xnl_r _ | exact xnl_n | exact Bool.toNat_lt _ | exact hb _ | exact hb2 _ | omega | exact Nat.le_of_ble_eq_true rfl | rfl | decide)) only [pX4_isContext_0, pX4_isContext_1, pX4_isContext_4, pX4_isContext_5, pX4_isContext_7, pX4_isContext_10, pX4_isContext_11, pX4_isContext_14, pX4_isContext_15, h0, h1, if_true, if_false]
theorem k_isLock {v : Int32} : xC E mX4_isLock [.int v] S V Q ↔ if nI 0 ≤ v ∧ v ≤ nI 3 then Q (some (.int (nI 1))) S V else Q (some (.int (nI 0))) S V := by
  show xX E mX4_isLock 0 [some (.int v)] [] S V Q ↔ _
  rcases xrng v 0 3 (by decide) (by decide) with ⟨c, _, hc, rfl⟩ | ⟨hn, h | h⟩
  · have h1 := rng_n (Nat.zero_le c) hc (by decide)
    have h2 : ¬ 4 ≤ c := by omega
    rw [if_pos h1]
    simp (disch := (first | assumption | exact xnl_i _ | exact xnl_r _ | exact xnl_n | exact Bool.toNat_lt _ | exact hb _ | exact hb2 _ | omega | exact Nat.le_of_ble_eq_true rfl | rfl | decide)) only [pX4_isLock_0, pX4_isLock_1, pX4_isLock_4, pX4_isLock_5, pX4_isLock_6, pX4_isLock_9, pX4_isLock_10, pX4_isLock_13, pX4_isLock_14, nI_add, pk_mul, xn_sub, xn_and, xn_or, xn_xor, xn_shl, xn_shr, xn_lt, xn_le, xn_eq, xrf_some, xup_eq, xup_ne, xrow_eq, xrow_ne, Option.toList_some, Option.toList_none, List.singleton_append, List.nil_append, List.cons_append, xnl_n, xnl_i, xnl_r, Nat.zero_add, Nat.add_zero, ↓reduceIte, Nat.reduceEqDiff, Nat.reduceLeDiff, Nat.reduceAdd, Nat.reduceMul, Nat.reduceLT, Nat.one_ne_zero, eq_self, not_true_eq_false, not_false_eq_true, and_self, Nat.not_lt_zero, h2]
  · rw [if_neg hn]
    simp (disch := (first | assumption | exact xnl_i _ | exact xnl_r _ | exact xnl_n | exact Bool.toNat_lt _ | exact hb _ | exact hb2 _ | omega | exact Nat.le_of_ble_eq_true rfl | rfl | decide)) only [pX4_isLock_0, pX4_isLock_1, pX4_isLock_4, pX4_isLock_5, pX4_isLock_6, pX4_isLock_9, pX4_isLock_10, pX4_isLock_13, pX4_isLock_14, h, if_true]
  · have h0 := xlt_0 (by decide) h
    have h1 := xlt_le (by decide) h
    rw [if_neg hn]
    simp (disch := (first | assumption | exact xnl_i _ | exact xnl_r _ | exact xnl_n | exact Bool.toNat_lt _ | exact hb _ | exact hb2 _ | omega | exact Nat.le_of_ble_eq_true rfl | rfl | decide)) only [pX4_isLock_0, pX4_isLock_1, pX4_isLock_4, pX4_isLock_5, pX4_isLock_6, pX4_isLock_9, pX4_isLock_10, pX4_isLock_13, pX4_isLock_14, h0, h1, if_true, if_false]
theorem k_isSave {v : Int32} : xC E mX4_isSave [.int v] S V Q ↔ if nI 0 ≤ v ∧ v ≤ nI 1 then Q (some (.int (nI 1))) S V else Q (some (.int (nI 0))) S V := by
  show xX E mX4_isSave 0 [some (.int v)] [] S V Q ↔ _
  rcases xrng v 0 1 (by decide) (by decide) with ⟨c, _, hc, rfl⟩ | ⟨hn, h | h⟩
  · have h1 := rng_n (Nat.zero_le c) hc (by decide)
    have h2 : ¬ 2 ≤ c := by omega
    rw [if_pos h1]
    simp (disch := (first | assumption | exact xnl_i _ | exact xnl_r _ | exact xnl_n | exact Bool.toNat_lt _ | exact hb _ | exact hb2 _ | omega | exact Nat.le_of_ble_eq_true rfl | rfl | decide)) only [pX4_isSave_0, pX4_isSave_1, pX4_isSave_4, pX4_isSave_5, pX4_isSave_6, pX4_isSave_9, pX4_isSave_10, pX4_isSave_13, pX4_isSave_14, nI_add, pk_mul, xn_sub, xn_and, xn_or, xn_xor, xn_shl, xn_shr, xn_lt, xn_le, xn_eq, xrf_some, xup_eq, xup_ne, xrow_eq, xrow_ne, Option.toList_some, Option.toList_none, List.singleton_append, List.nil_append, List.cons_append, xnl_n, xnl_i, xnl_r, Nat.zero_add, Nat.add_zero, ↓reduceIte, Nat.reduceEqDiff, Nat.reduceLeDiff, Nat.reduceAdd, Nat.reduceMul, Nat.reduceLT, Nat.one_ne_zero, eq_self, not_true_eq_false, not_false_eq_true, and_self, Nat.not_lt_zero, h2]
  · rw [if_neg hn]
    simp (disch := (first | assumption | exact xnl_i _ | exact xnl_r _ | exact xnl_n | exact Bool.toNat_lt _ | exact hb _ | exact hb2 _ | omega | exact Nat.le_of_ble_eq_true rfl | rfl | decide)) only [pX4_isSave_0, pX4_isSave_1, pX4_isSave_4, pX4_isSave_5, pX4_isSave_6, pX4_isSave_9, pX4_isSave_10, pX4_isSave_13, pX4_isSave_14, h, if_true]
  · have h0 := xlt_0 (by decide) h
    have h1 := xlt_le (by decide) h
    rw [if_neg hn]
    simp (disch := (first | assumption | exact xnl_i _ | exact xnl_r _ | exact xnl_n | exact Bool.toNat_lt _ | exact hb _ | exact hb2 _ | omega | exact Nat.le_of_ble_eq_true rfl | rfl | decide)) only [pX4_isSave_0, pX4_isSave_1, pX4_isSave_4, pX4_isSave_5, pX4_isSave_6, pX4_isSave_9, pX4_isSave_10, pX4_isSave_13, pX4_isSave_14, h0, h1, if_true, if_false]
theorem k_isPriority {v : Int32} : xC E mX4_isPriority [.int v] S V Q ↔ if nI 0 ≤ v ∧ v ≤ nI 9 then Q (some (.int (nI 1))) S V else Q (some (.int (nI 0))) S V := by
  show xX E mX4_isPriority 0 [some (.int v)] [] S V Q ↔ _
  rcases xrng v 0 9 (by decide) (by decide) with ⟨c, _, hc, rfl⟩ | ⟨hn, h | h⟩
  · have h1 := rng_n (Nat.zero_le c) hc (by decide)
    have h2 : ¬ 9 < c := by omega
    rw [if_pos h1]
    simp (disch := (first | assumption | exact xnl_i _ | exact xnl_r _ | exact xnl_n | exact Bool.toNat_lt _ | exact hb _ | exact hb2 _ | omega | exact Nat.le_of_ble_eq_true rfl | rfl | decide)) only [pX4_isPriority_0, pX4_isPriority_1, pX4_isPriority_4, pX4_isPriority_5, pX4_isPriority_7, pX4_isPriority_10, pX4_isPriority_11, pX4_isPriority_14, pX4_isPriority_15, nI_add, pk_mul, xn_sub, xn_and, xn_or, xn_xor, xn_shl, xn_shr, xn_lt, xn_le, xn_eq, xrf_some, xup_eq, xup_ne, xrow_eq, xrow_ne, Option.toList_some, Option.toList_none, List.singleton_append, List.nil_append, List.cons_append, xnl_n, xnl_i, xnl_r, Nat.zero_add, Nat.add_zero, ↓reduceIte, Nat.reduceEqDiff, Nat.reduceLeDiff, Nat.reduceAdd, Nat.reduceMul, Nat.reduceLT, Nat.one_ne_zero, eq_self, not_true_eq_false, not_false_eq_true, and_self, Nat.not_lt_zero, h2]
  · rw [if_neg hn]
    simp (disch := (first | assumption | exact xnl_i _ | exact xnl_r _ | exact xnl_n | exact Bool.toNat_lt _ | exact hb _ | exact hb2 _ | omega | exact Nat.le_of_ble_eq_true rfl | rfl | decide)) only [pX4_isPriority_0, pX4_isPriority_1, pX4_isPriority_4, pX4_isPriority_5, pX4_isPriority_7, pX4_isPriority_10, pX4_isPriority_11, pX4_isPriority_14, pX4_isPriority_15, h, if_true]
  · have h0 := xlt_0 (by decide) h
    rw [if_neg hn]
    simp (disch := (first | assumption | exact xnl_i _ | exact xnl_r _ | exact xnl_n | exact Bool.toNat_lt _ | exact hb _ | exact hb2 _ | omega | exact Nat.le_of_ble_eq_true rfl | rfl | decide)) only [pX4_isPriority_0, pX4_isPriority_1, pX4_isPriority_4, pX4_isPriority_5, pX4_isPriority_7, pX4_isPriority_10, pX4_isPriority_11, pX4_isPriority_14, pX4_isPriority_15, h0, h, if_true, if_false]
theorem k_isStep {v : Int32} : xC E mX4_isStep [.int v] S V Q ↔ if nI 1 ≤ v ∧ v ≤ nI 200 then Q (some (.int (nI 1))) S V else Q (some (.int (nI 0))) S V := by
  show xX E mX4_isStep 0 [some (.int v)] [] S V Q ↔ _
  rcases xrng v 1 200 (by decide) (by decide) with ⟨c, hc0, hc, rfl⟩ | ⟨hn, h | h⟩
  · have h1 := rng_n hc0 hc (by decide)
    have h2 : ¬ 200 < c := by omega
    have h3 : ¬ c < 1 := by omega
    rw [if_pos h1]
    simp (disch := (first | assumption | exact xnl_i _ | exact xnl_r _ | exact xnl_n | exact Bool.toNat_lt _ | exact hb _ | exact hb2 _ | omega | exact Nat.le_of_ble_eq_true rfl | rfl | decide)) only [pX4_isStep_0, pX4_isStep_1, pX4_isStep_2, pX4_isStep_5, pX4_isStep_6, pX4_isStep_9, pX4_isStep_12, pX4_isStep_13, pX4_isStep_16, pX4_isStep_17, nI_add, pk_mul, xn_sub, xn_and, xn_or, xn_xor, xn_shl, xn_shr, xn_lt, xn_le, xn_eq, xrf_some, xup_eq, xup_ne, xrow_eq, xrow_ne, Option.toList_some, Option.toList_none, List.singleton_append, List.nil_append, List.cons_append, xnl_n, xnl_i, xnl_r, Nat.zero_add, Nat.add_zero, ↓reduceIte, Nat.reduceEqDiff, Nat.reduceLeDiff, Nat.reduceAdd, Nat.reduceMul, Nat.reduceLT, Nat.one_ne_zero, eq_self, not_true_eq_false, not_false_eq_true, and_self, h3, h2]
  · rw [if_neg hn]
    simp (disch := (first | assumption | exact xnl_i _ | exact xnl_r _ | exact xnl_n | exact Bool.toNat_lt _ | exact hb _ | exact hb2 _ | omega | exact Nat.le_of_ble_eq_true rfl | rfl | decide)) only [pX4_isStep_0, pX4_isStep_1, pX4_isStep_2, pX4_isStep_5, pX4_isStep_6, pX4_isStep_9, pX4_isStep_12, pX4_isStep_13, pX4_isStep_16, pX4_isStep_17, h, if_true]
  · have h0 : ¬ v < nI 1 := fun z => by
      rw [Int32.lt_iff_toInt_lt, xn_toInt (by decide)] at h z
      omega
    rw [if_neg hn]
    simp (disch := (first | assumption | exact xnl_i _ | exact xnl_r _ | exact xnl_n | exact Bool.toNat_lt _ | exact hb _ | exact hb2 _ | omega | exact Nat.le_of_ble_eq_true rfl | rfl | decide)) only [pX4_isStep_0, pX4_isStep_1, pX4_isStep_2, pX4_isStep_5, pX4_isStep_6, pX4_isStep_9, pX4_isStep_12, pX4_isStep_13, pX4_isStep_16, pX4_isStep_17, h0, h, if_true, if_false]
theorem k_isCommand {b c : Int32} (hO : oRep E S V x) : xC E mX4_isCommand [.int b, .int c] S V Q ↔ Q (some (.int (nI (pargB b c).toNat))) S V := by
  obtain ⟨lk, ll, lv, gk, gl, gv, _, _⟩ := hO
  show xX E mX4_isCommand 0 [some (.int b), some (.int c)] [] S V Q ↔ _
  rcases xrng b 0 6 (by decide) (by decide) with ⟨k, _, hk, rfl⟩ | ⟨hn, h | h⟩
  · have hk0 := rng_n (Nat.zero_le k) hk (by decide)
    have hk6 : ¬ 6 < k := by omega
    have hl := lv k (by omega)
    have hg := gv k (by omega)
    -- lo, hi
    obtain ⟨lo, hi, hlo, hhi, h100, hpok⟩ : ∃ lo hi, lo = (if k = 6 then 1 else 0) ∧ hi = (if k = 0 then 99 else if k = 1 then 7 else if k = 2 then 0 else if k = 3 then 3 else if k = 4 then 3 else if k = 5 then 99 else 15) ∧ (lo ≤ hi ∧ hi ≤ 99) ∧ ∀ n, pok k n ↔ lo ≤ n ∧ n ≤ hi := by
      have hcase : k = 0 ∨ k = 1 ∨ k = 2 ∨ k = 3 ∨ k = 4 ∨ k = 5 ∨ k = 6 := by omega
      refine ⟨_, _, rfl, rfl, ?_, ?_⟩
      · rcases hcase with rfl | rfl | rfl | rfl | rfl | rfl | rfl <;> decide
      · intro n
        unfold pok
        rcases hcase with rfl | rfl | rfl | rfl | rfl | rfl | rfl <;> simp
    rw [← hlo] at hl
    rw [← hhi] at hg
    have e : pargB (nI k) c = decide (nI lo ≤ c ∧ c ≤ nI hi) := by
      unfold pargB
      simp only [hk0, and_self, decide_true, Bool.true_and]
      rw [ix_n (by omega)]
      rcases xrng c 0 99 (by decide) (by decide) with ⟨n, _, hn, rfl⟩ | ⟨hn, _⟩
      · have h0 := rng_n (Nat.zero_le n) hn (by decide)
        rw [ix_n (by omega)]
        have : pokb k n = decide (lo ≤ n ∧ n ≤ hi) := by
          cases hp : pokb k n with
          | true => exact (decide_eq_true ((hpok n).mp (pokb_iff.mp hp))).symm
          | false => exact (decide_eq_false (fun z => by have := pokb_iff.mpr ((hpok n).mpr z); rw [hp] at this; cases this)).symm
        rw [this]
        simp only [h0, and_self, decide_true, Bool.true_and]
        refine decide_eq_decide.mpr ?_
        rw [xn_le (by omega) (by omega), xn_le (by omega) (by omega)]
      · rw [decide_eq_false hn, Bool.false_and]
        symm
        refine decide_eq_false fun z => hn ⟨Int32.le_trans ((xn_le (by decide) (by omega)).mpr (Nat.zero_le _)) z.1, Int32.le_trans z.2 ((xn_le (by omega) (by decide)).mpr h100.2)⟩
    rw [e]
    rcases xrng c lo hi h100.1 (by omega) with ⟨n, hn1, hn2, rfl⟩ | ⟨hn, h | h⟩
    · have h1 := rng_n hn1 hn2 (show hi < 2147483648 by omega)
      have a1 : ¬ n < lo := by omega
      have a2 : ¬ hi < n := by omega
      rw [decide_eq_true h1]
      simp (disch := (first | assumption | exact xnl_i _ | exact xnl_r _ | exact xnl_n | exact Bool.toNat_lt _ | exact hb _ | exact hb2 _ | omega | exact Nat.le_of_ble_eq_true rfl | rfl | decide)) only [pX4_isCommand_0, pX4_isCommand_1, pX4_isCommand_4, pX4_isCommand_5, pX4_isCommand_7, pX4_isCommand_10, pX4_isCommand_11, pX4_isCommand_14, pX4_isCommand_15, pX4_isCommand_16, pX4_isCommand_19, pX4_isCommand_20, pX4_isCommand_23, pX4_isCommand_24, pX4_isCommand_25, pX4_isCommand_28, pX4_isCommand_29, pX4_isCommand_32, pX4_isCommand_33, nI_add, pk_mul, xn_sub, xn_and, xn_or, xn_xor, xn_shl, xn_shr, xn_lt, xn_le, xn_eq, xrf_some, xup_eq, xup_ne, xrow_eq, xrow_ne, Option.toList_some, Option.toList_none, List.singleton_append, List.nil_append, List.cons_append, xnl_n, xnl_i, xnl_r, Nat.zero_add, Nat.add_zero, ↓reduceIte, Nat.reduceEqDiff, Nat.reduceLeDiff, Nat.reduceAdd, Nat.reduceMul, Nat.reduceLT, Nat.one_ne_zero, eq_self, not_true_eq_false, not_false_eq_true, and_self, Nat.not_lt_zero, hk6, hl, hg, a1, a2, Bool.toNat_true]
    · rw [decide_eq_false hn]
      simp (disch := (first | assumption | exact xnl_i _ | exact xnl_r _ | exact xnl_n | exact Bool.toNat_lt _ | exact hb _ | exact hb2 _ | omega | exact Nat.le_of_ble_eq_true rfl | rfl | decide)) only [pX4_isCommand_0, pX4_isCommand_1, pX4_isCommand_4, pX4_isCommand_5, pX4_isCommand_7, pX4_isCommand_10, pX4_isCommand_11, pX4_isCommand_14, pX4_isCommand_15, pX4_isCommand_16, pX4_isCommand_19, pX4_isCommand_20, pX4_isCommand_23, pX4_isCommand_24, pX4_isCommand_25, pX4_isCommand_28, pX4_isCommand_29, pX4_isCommand_32, pX4_isCommand_33, nI_add, pk_mul, xn_sub, xn_and, xn_or, xn_xor, xn_shl, xn_shr, xn_lt, xn_le, xn_eq, xrf_some, xup_eq, xup_ne, xrow_eq, xrow_ne, Option.toList_some, Option.toList_none, List.singleton_append, List.nil_append, List.cons_append, xnl_n, xnl_i, xnl_r, Nat.zero_add, Nat.add_zero, ↓reduceIte, Nat.reduceEqDiff, Nat.reduceLeDiff, Nat.reduceAdd, Nat.reduceMul, Nat.reduceLT, Nat.one_ne_zero, eq_self, not_true_eq_false, not_false_eq_true, and_self, Nat.not_lt_zero, hk6, hl, hg, h, Bool.toNat_false]
    · have h0 : ¬ c < nI lo := fun z => by
        rw [Int32.lt_iff_toInt_lt, xn_toInt (by omega)] at h z
        omega
      rw [decide_eq_false hn]
      simp (disch := (first | assumption | exact xnl_i _ | exact xnl_r _ | exact xnl_n | exact Bool.toNat_lt _ | exact hb _ | exact hb2 _ | omega | exact Nat.le_of_ble_eq_true rfl | rfl | decide)) only [pX4_isCommand_0, pX4_isCommand_1, pX4_isCommand_4, pX4_isCommand_5, pX4_isCommand_7, pX4_isCommand_10, pX4_isCommand_11, pX4_isCommand_14, pX4_isCommand_15, pX4_isCommand_16, pX4_isCommand_19, pX4_isCommand_20, pX4_isCommand_23, pX4_isCommand_24, pX4_isCommand_25, pX4_isCommand_28, pX4_isCommand_29, pX4_isCommand_32, pX4_isCommand_33, nI_add, pk_mul, xn_sub, xn_and, xn_or, xn_xor, xn_shl, xn_shr, xn_lt, xn_le, xn_eq, xrf_some, xup_eq, xup_ne, xrow_eq, xrow_ne, Option.toList_some, Option.toList_none, List.singleton_append, List.nil_append, List.cons_append, xnl_n, xnl_i, xnl_r, Nat.zero_add, Nat.add_zero, ↓reduceIte, Nat.reduceEqDiff, Nat.reduceLeDiff, Nat.reduceAdd, Nat.reduceMul, Nat.reduceLT, Nat.one_ne_zero, eq_self, not_true_eq_false, not_false_eq_true, and_self, Nat.not_lt_zero, hk6, hl, hg, h, h0, Bool.toNat_false]
  · have e : pargB b c = false := by unfold pargB; rw [decide_eq_false hn, Bool.false_and]
    rw [e]
    simp (disch := (first | assumption | exact xnl_i _ | exact xnl_r _ | exact xnl_n | exact Bool.toNat_lt _ | exact hb _ | exact hb2 _ | omega | exact Nat.le_of_ble_eq_true rfl | rfl | decide)) only [pX4_isCommand_0, pX4_isCommand_1, pX4_isCommand_4, pX4_isCommand_5, pX4_isCommand_7, pX4_isCommand_10, pX4_isCommand_11, pX4_isCommand_14, pX4_isCommand_15, pX4_isCommand_16, pX4_isCommand_19, pX4_isCommand_20, pX4_isCommand_23, pX4_isCommand_24, pX4_isCommand_25, pX4_isCommand_28, pX4_isCommand_29, pX4_isCommand_32, pX4_isCommand_33, h, if_true, Bool.toNat_false]
  · have h0 := xlt_0 (by decide) h
    have e : pargB b c = false := by unfold pargB; rw [decide_eq_false hn, Bool.false_and]
    rw [e]
    simp (disch := (first | assumption | exact xnl_i _ | exact xnl_r _ | exact xnl_n | exact Bool.toNat_lt _ | exact hb _ | exact hb2 _ | omega | exact Nat.le_of_ble_eq_true rfl | rfl | decide)) only [pX4_isCommand_0, pX4_isCommand_1, pX4_isCommand_4, pX4_isCommand_5, pX4_isCommand_7, pX4_isCommand_10, pX4_isCommand_11, pX4_isCommand_14, pX4_isCommand_15, pX4_isCommand_16, pX4_isCommand_19, pX4_isCommand_20, pX4_isCommand_23, pX4_isCommand_24, pX4_isCommand_25, pX4_isCommand_28, pX4_isCommand_29, pX4_isCommand_32, pX4_isCommand_33, h0, h, if_true, if_false, Bool.toNat_false]
end KCK

