/-! ===== the reference: its cells, its small methods ===== -/
def mShape (S : xSh) (t : Nat) : Prop :=
  xkd S t = 6 ∧ xrf S t 1 = some (t + 1) ∧ xrf S t 2 = some (t + 2) ∧ xrf S t 3 = some (t + 3) ∧ xrf S t 5 = some (t + 4) ∧ xrf S t 6 = some (t + 5) ∧ xrf S t 7 = some (t + 6) ∧ xrf S t 9 = some (t + 7) ∧ xrf S t 10 = some (t + 8) ∧ xrf S t 14 = some (t + 9) ∧
  xkd S (t + 1) = 7 ∧ xln S (t + 1) = 502 ∧ xkd S (t + 2) = 7 ∧ xln S (t + 2) = 502 ∧ xkd S (t + 3) = 7 ∧ xln S (t + 3) = 3012 ∧ xkd S (t + 4) = 7 ∧ xln S (t + 4) = 1004 ∧ xkd S (t + 5) = 9 ∧ xln S (t + 5) = 2 ∧ xkd S (t + 6) = 7 ∧ xln S (t + 6) = 72 ∧ xkd S (t + 7) = 7 ∧ xln S (t + 7) = 8 ∧ xkd S (t + 8) = 7 ∧ xln S (t + 8) = 8 ∧ xkd S (t + 9) = 7 ∧ xln S (t + 9) = 32
section MOD
variable {E : Nat × Nat × Nat} {S : xSh} {V : xV} {Q : Option Value → xSh → xV → Prop} {t : Nat}
theorem s_in {v a b : Int32} : xC E mX5_in [.int v, .int a, .int b] S V Q ↔ if a ≤ v ∧ v ≤ b then Q (some (.int (nI 1))) S V else Q (some (.int (nI 0))) S V := by
  show xX E mX5_in 0 [some (.int v), some (.int a), some (.int b)] [] S V Q ↔ _
  by_cases h1 : v < a
  · have h2 : ¬ (a ≤ v ∧ v ≤ b) := fun h => absurd h.1 (Int32.not_le.mpr h1)
    simp (disch := (first | assumption | exact xnl_i _ | exact xnl_r _ | exact xnl_n | exact Bool.toNat_lt _ | exact hb _ | exact hb2 _ | omega | exact Nat.le_of_ble_eq_true rfl | rfl | decide)) only [pX5_in_0, pX5_in_1, pX5_in_2, pX5_in_5, pX5_in_6, pX5_in_7, pX5_in_10, pX5_in_11, pX5_in_14, pX5_in_15, h1, h2, if_true, if_false]
  · by_cases h3 : b < v
    · have h2 : ¬ (a ≤ v ∧ v ≤ b) := fun h => absurd h.2 (Int32.not_le.mpr h3)
      simp (disch := (first | assumption | exact xnl_i _ | exact xnl_r _ | exact xnl_n | exact Bool.toNat_lt _ | exact hb _ | exact hb2 _ | omega | exact Nat.le_of_ble_eq_true rfl | rfl | decide)) only [pX5_in_0, pX5_in_1, pX5_in_2, pX5_in_5, pX5_in_6, pX5_in_7, pX5_in_10, pX5_in_11, pX5_in_14, pX5_in_15, h1, h3, h2, if_true, if_false]
    · have h2 : (a ≤ v ∧ v ≤ b) := ⟨Int32.not_lt.mp h1, Int32.not_lt.mp h3⟩
      simp (disch := (first | assumption | exact xnl_i _ | exact xnl_r _ | exact xnl_n | exact Bool.toNat_lt _ | exact hb _ | exact hb2 _ | omega | exact Nat.le_of_ble_eq_true rfl | rfl | decide)) only [pX5_in_0, pX5_in_1, pX5_in_2, pX5_in_5, pX5_in_6, pX5_in_7, pX5_in_10, pX5_in_11, pX5_in_14, pX5_in_15, h1, h3, h2, if_true, if_false, and_self]
theorem s_get (hS : mShape S t) {c w : Nat} (hc : c < 8) (hw : w < 62) : xC E mX5_get [.ref t, .int (nI c), .int (nI w)] S V Q ↔ Q (some (.int (V (t + 1) (62 * c + w)))) S V := by
  obtain ⟨k0, r1, r2, r3, r5, r6, r7, r9, r10, r14, k1, n1, k2, n2, k3, n3, k4, n4, k5, n5, k6, n6, k7, n7, k8, n8, k9, n9⟩ := hS
  show xX E mX5_get 0 [some (.ref t), some (.int (nI c)), some (.int (nI w))] [] S V Q ↔ _
  simp (disch := (first | assumption | exact xnl_i _ | exact xnl_r _ | exact xnl_n | exact Bool.toNat_lt _ | exact hb _ | exact hb2 _ | omega | exact Nat.le_of_ble_eq_true rfl | rfl | decide)) only [pX5_get_0, pX5_get_1, pX5_get_4, pX5_get_6, pX5_get_7, pX5_get_8, pX5_get_9, pX5_get_10, pX5_get_11, nI_add, pk_mul, xn_sub, xn_and, xn_or, xn_xor, xn_shl, xn_shr, xn_lt, xn_le, xn_eq, xrf_some, xup_eq, xup_ne, xrow_eq, xrow_ne, Option.toList_some, Option.toList_none, List.singleton_append, List.nil_append, List.cons_append, xnl_n, xnl_i, xnl_r, Nat.zero_add, Nat.add_zero, ↓reduceIte, Nat.reduceEqDiff, Nat.reduceLeDiff, Nat.reduceAdd, Nat.reduceMul, Nat.reduceLT, Nat.one_ne_zero, eq_self, not_true_eq_false, not_false_eq_true, and_self, k0, r1, r2, r3, r5, r6, r7, r9, r10, r14]
theorem s_lay (hS : mShape S t) {c w : Nat} {v : Int32} (hc : c < 8) (hw : w < 62) : xC E mX5_lay [.ref t, .int (nI c), .int (nI w), .int v] S V Q ↔ Q none S (xup V (t + 1) (62 * c + w) v) := by
  obtain ⟨k0, r1, r2, r3, r5, r6, r7, r9, r10, r14, k1, n1, k2, n2, k3, n3, k4, n4, k5, n5, k6, n6, k7, n7, k8, n8, k9, n9⟩ := hS
  show xX E mX5_lay 0 [some (.ref t), some (.int (nI c)), some (.int (nI w)), some (.int v)] [] S V Q ↔ _
  simp (disch := (first | assumption | exact xnl_i _ | exact xnl_r _ | exact xnl_n | exact Bool.toNat_lt _ | exact hb _ | exact hb2 _ | omega | exact Nat.le_of_ble_eq_true rfl | rfl | decide)) only [pX5_lay_0, pX5_lay_1, pX5_lay_4, pX5_lay_6, pX5_lay_7, pX5_lay_8, pX5_lay_9, pX5_lay_10, pX5_lay_11, pX5_lay_12, nI_add, pk_mul, xn_sub, xn_and, xn_or, xn_xor, xn_shl, xn_shr, xn_lt, xn_le, xn_eq, xrf_some, xup_eq, xup_ne, xrow_eq, xrow_ne, Option.toList_some, Option.toList_none, List.singleton_append, List.nil_append, List.cons_append, xnl_n, xnl_i, xnl_r, Nat.zero_add, Nat.add_zero, ↓reduceIte, Nat.reduceEqDiff, Nat.reduceLeDiff, Nat.reduceAdd, Nat.reduceMul, Nat.reduceLT, Nat.one_ne_zero, eq_self, not_true_eq_false, not_false_eq_true, and_self, k0, r1, r2, r3, r5, r6, r7, r9, r10, r14]
theorem s_isDone (hS : mShape S t) {c : Nat} (hc : c < 8) : xC E mX5_isDone [.ref t, .int (nI c)] S V Q ↔ if V (t + 1) (62 * c) ≤ V (t + 1) (62 * c + 1) then Q (some (.int (nI 1))) S V else Q (some (.int (nI 0))) S V := by
  have hS' := hS
  obtain ⟨k0, r1, r2, r3, r5, r6, r7, r9, r10, r14, k1, n1, k2, n2, k3, n3, k4, n4, k5, n5, k6, n6, k7, n7, k8, n8, k9, n9⟩ := hS'
  show xX E mX5_isDone 0 [some (.ref t), some (.int (nI c))] [] S V Q ↔ _
  simp (disch := (first | assumption | exact xnl_i _ | exact xnl_r _ | exact xnl_n | exact Bool.toNat_lt _ | exact hb _ | exact hb2 _ | omega | exact Nat.le_of_ble_eq_true rfl | rfl | decide)) only [pX5_isDone_0, pX5_isDone_1, pX5_isDone_2, pX5_isDone_3, pX5_isDone_6, pX5_isDone_7, pX5_isDone_8, pX5_isDone_9, pX5_isDone_12, pX5_isDone_15, pX5_isDone_16, pX5_isDone_19, pX5_isDone_20, nI_add, pk_mul, xn_sub, xn_and, xn_or, xn_xor, xn_shl, xn_shr, xn_lt, xn_le, xn_eq, xrf_some, xup_eq, xup_ne, xrow_eq, xrow_ne, Option.toList_some, Option.toList_none, List.singleton_append, List.nil_append, List.cons_append, xnl_n, xnl_i, xnl_r, Nat.zero_add, Nat.add_zero, ↓reduceIte, Nat.reduceEqDiff, Nat.reduceLeDiff, Nat.reduceAdd, Nat.reduceMul, Nat.reduceLT, Nat.one_ne_zero, eq_self, not_true_eq_false, not_false_eq_true, and_self, k0, r1, r2, r3, r5, r6, r7, r9, r10, r14, s_get hS]
  by_cases h : V (t + 1) (62 * c) ≤ V (t + 1) (62 * c + 1)
  · have h' : ¬ V (t + 1) (62 * c + 1) < V (t + 1) (62 * c) := Int32.not_lt.mpr h
    simp only [h, h', if_true, if_false]
  · have h' : V (t + 1) (62 * c + 1) < V (t + 1) (62 * c) := Int32.not_le.mp h
    simp only [h, h', if_true, if_false]
end MOD
