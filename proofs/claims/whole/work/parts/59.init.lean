/-! ===== constructors ===== -/
theorem xnew_T {S : xSh} {kd n z : Nat} : (xnew S kd n z).2.1 = S.2.1 + 1 := rfl
theorem xnew_Z {S : xSh} {kd n z : Nat} : (xnew S kd n z).2.2 = S.2.2 + z := rfl
theorem xsetr_T {S : xSh} {a k : Nat} {r : Option Nat} : (xsetr S a k r).2.1 = S.2.1 := rfl
theorem xsetr_Z {S : xSh} {a k : Nat} {r : Option Nat} : (xsetr S a k r).2.2 = S.2.2 := rfl
theorem xnew_ln (S : xSh) (kd n z b : Nat) : xln (xnew S kd n z) b = if b = S.2.1 then n else xln S b := by unfold xln xnew; by_cases h : b = S.2.1 <;> simp [h]
theorem xnew_rf (S : xSh) (kd n z b j : Nat) : xrf (xnew S kd n z) b j = if b = S.2.1 then none else xrf S b j := by unfold xrf xnew; by_cases h : b = S.2.1 <;> simp [h]
theorem xsetr_rf (S : xSh) (a k : Nat) (r : Option Nat) (b j : Nat) : xrf (xsetr S a k r) b j = if b = a ∧ j = k then r else xrf S b j := by
  unfold xrf xsetr
  by_cases h : b = a
  · subst h; by_cases hj : j = k <;> simp [hj]
  · simp [h]
/-- cells from lo up to hi are new; all others as they were -/
def nFr (S S' : xSh) (V V' : xV) (lo hi : Nat) : Prop := ∀ a, a < lo ∨ hi ≤ a → S'.1 a = S.1 a ∧ V' a = V a
section INI
variable {E : Nat × Nat × Nat} {S : xSh} {V V' W : xV} {Q : Option Value → xSh → xV → Prop} {t b x : Nat}
theorem xnew_1 {kd n z a : Nat} (h : ¬ a = S.2.1) : (xnew S kd n z).1 a = S.1 a := by simp [xnew, h]
theorem xsetr_1 {k a : Nat} {r : Option Nat} (h : ¬ a = b) : (xsetr S b k r).1 a = S.1 a := by simp [xsetr, h]
theorem i_X0 (hk : xkd S b = 1) (hT : S.2.1 = b + 1) (hV : V b = fun _ => 0) : ∃ S' V', cShape S' b ∧ S'.2.1 = b + 5 ∧ S'.2.2 = S.2.2 + 40 ∧ nFr S S' V V' b (b + 5) ∧ (∀ a, b ≤ a → a < b + 5 → V' a = fun _ => 0) ∧ ∀ Q : Option Value → xSh → xV → Prop, xC E mX0_init [.ref b] S V Q ↔ Q none S' V' := by
  refine ⟨xsetr (xnew (xsetr (xnew (xsetr (xnew (xsetr (xnew S 7 16 16) b 0 (some (b + 1))) 7 16 16) b 1 (some (b + 2))) 7 4 4) b 2 (some (b + 3))) 7 4 4) b 3 (some (b + 4)), xrow (xrow (xrow (xrow V (b + 1) (fun _ => 0)) (b + 2) (fun _ => 0)) (b + 3) (fun _ => 0)) (b + 4) (fun _ => 0), ?_, ?_, ?_, fun a ha => ⟨?_, ?_⟩, fun a h1 h2 => ?_, fun Q => ?_⟩
  · unfold cShape
    simp [xnew_kd, xsetr_kd, xnew_ln, xsetr_ln, xnew_rf, xsetr_rf, xnew_T, xsetr_T, hT, hk, Nat.add_assoc]
  · simp [xnew_T, xsetr_T, hT]
  · simp [xnew_Z, xsetr_Z]
  · rw [xsetr_1 (by omega), xnew_1 (by simp [xnew_T, xsetr_T, hT]; omega), xsetr_1 (by omega), xnew_1 (by simp [xnew_T, xsetr_T, hT]; omega), xsetr_1 (by omega), xnew_1 (by simp [xnew_T, xsetr_T, hT]; omega), xsetr_1 (by omega), xnew_1 (by omega)]
  · rw [xrow_ne (by omega), xrow_ne (by omega), xrow_ne (by omega), xrow_ne (by omega)]
  · have hc : a = b ∨ a = b + 1 ∨ a = b + 2 ∨ a = b + 3 ∨ a = b + 4 := by omega
    rcases hc with rfl | rfl | rfl | rfl | rfl <;> simp [xrow, hV]
  · show xX E mX0_init 0 [some (.ref b)] [] S V Q ↔ _
    simp (disch := (first | assumption | exact xnl_i _ | exact xnl_r _ | exact xnl_n | omega | exact Nat.le_of_ble_eq_true rfl | rfl | decide | (simp [xnew_kd, xsetr_kd, xnew_T, xsetr_T, hT, hk, Nat.add_assoc]; done))) only [pX0_init_0, pX0_init_1, pX0_init_4, pX0_init_5, pX0_init_7, pX0_init_9, pX0_init_12, pX0_init_13, pX0_init_15, pX0_init_17, pX0_init_20, pX0_init_21, pX0_init_22, pX0_init_24, pX0_init_27, pX0_init_28, pX0_init_29, pX0_init_31, pX0_init_34, nI_add, pk_mul, xn_sub, xn_and, xn_or, xn_xor, xn_shl, xn_shr, xn_lt, xn_le, xn_eq, xrf_some, xup_eq, xup_ne, xrow_eq, xrow_ne, Option.toList_some, Option.toList_none, List.singleton_append, List.nil_append, List.cons_append, xnl_n, xnl_i, xnl_r, Nat.zero_add, Nat.add_zero, ↓reduceIte, Nat.reduceEqDiff, Nat.reduceLeDiff, Nat.reduceAdd, Nat.reduceMul, Nat.reduceLT, Nat.one_ne_zero, eq_self, not_true_eq_false, not_false_eq_true, and_self, hT, xnew_T, xsetr_T, Nat.add_assoc]
theorem i_X5 (hk : xkd S t = 6) (hT : S.2.1 = t + 1) (hV : V t = fun _ => 0) : ∃ S' V', mShape S' t ∧ S'.2.1 = t + 10 ∧ S'.2.2 = S.2.2 + 5142 ∧ nFr S S' V V' t (t + 10) ∧ (∀ a, t ≤ a → a < t + 10 → ∀ i, V' a i = 0) ∧ ∀ Q : Option Value → xSh → xV → Prop, xC E mX5_init [.ref t] S V Q ↔ Q none S' V' := by
  refine ⟨xsetr (xnew (xsetr (xnew (xsetr (xnew (xsetr (xnew (xsetr (xnew (xsetr (xnew (xsetr (xnew (xsetr (xnew (xsetr (xnew S 7 502 502) t 1 (some (t + 1))) 7 502 502) t 2 (some (t + 2))) 7 3012 3012) t 3 (some (t + 3))) 7 1004 1004) t 5 (some (t + 4))) 9 2 2) t 6 (some (t + 5))) 7 72 72) t 7 (some (t + 6))) 7 8 8) t 9 (some (t + 7))) 7 8 8) t 10 (some (t + 8))) 7 32 32) t 14 (some (t + 9)), xup (xrow (xrow (xrow (xrow (xrow (xrow (xrow (xrow (xrow V (t + 1) (fun _ => 0)) (t + 2) (fun _ => 0)) (t + 3) (fun _ => 0)) (t + 4) (fun _ => 0)) (t + 5) (fun _ => 0)) (t + 6) (fun _ => 0)) (t + 7) (fun _ => 0)) (t + 8) (fun _ => 0)) (t + 9) (fun _ => 0)) t 0 (nI 0), ?_, ?_, ?_, fun a ha => ⟨?_, ?_⟩, fun a h1 h2 i => ?_, fun Q => ?_⟩
  · unfold mShape
    simp [xnew_kd, xsetr_kd, xnew_ln, xsetr_ln, xnew_rf, xsetr_rf, xnew_T, xsetr_T, hT, hk, Nat.add_assoc]
  · simp [xnew_T, xsetr_T, hT]
  · simp [xnew_Z, xsetr_Z]
  · rw [xsetr_1 (by omega), xnew_1 (by simp [xnew_T, xsetr_T, hT]; omega), xsetr_1 (by omega), xnew_1 (by simp [xnew_T, xsetr_T, hT]; omega), xsetr_1 (by omega), xnew_1 (by simp [xnew_T, xsetr_T, hT]; omega), xsetr_1 (by omega), xnew_1 (by simp [xnew_T, xsetr_T, hT]; omega), xsetr_1 (by omega), xnew_1 (by simp [xnew_T, xsetr_T, hT]; omega), xsetr_1 (by omega), xnew_1 (by simp [xnew_T, xsetr_T, hT]; omega), xsetr_1 (by omega), xnew_1 (by simp [xnew_T, xsetr_T, hT]; omega), xsetr_1 (by omega), xnew_1 (by simp [xnew_T, xsetr_T, hT]; omega), xsetr_1 (by omega), xnew_1 (by omega)]
  · rw [xup_rn (by omega), xrow_ne (by omega), xrow_ne (by omega), xrow_ne (by omega), xrow_ne (by omega), xrow_ne (by omega), xrow_ne (by omega), xrow_ne (by omega), xrow_ne (by omega), xrow_ne (by omega)]
  · have hc : a = t ∨ a = t + 1 ∨ a = t + 2 ∨ a = t + 3 ∨ a = t + 4 ∨ a = t + 5 ∨ a = t + 6 ∨ a = t + 7 ∨ a = t + 8 ∨ a = t + 9 := by omega
    rcases hc with rfl | rfl | rfl | rfl | rfl | rfl | rfl | rfl | rfl | rfl <;> simp [xup, xrow, hV] <;> (try (intro _; rfl))
  · show xX E mX5_init 0 [some (.ref t)] [] S V Q ↔ _
    simp (disch := (first | assumption | exact xnl_i _ | exact xnl_r _ | exact xnl_n | omega | exact Nat.le_of_ble_eq_true rfl | rfl | decide | (simp [xnew_kd, xsetr_kd, xnew_T, xsetr_T, hT, hk, Nat.add_assoc]; done))) only [pX5_init_0, pX5_init_1, pX5_init_4, pX5_init_5, pX5_init_8, pX5_init_10, pX5_init_13, pX5_init_14, pX5_init_17, pX5_init_19, pX5_init_22, pX5_init_23, pX5_init_26, pX5_init_28, pX5_init_31, pX5_init_32, pX5_init_35, pX5_init_37, pX5_init_40, pX5_init_41, pX5_init_42, pX5_init_44, pX5_init_47, pX5_init_48, pX5_init_50, pX5_init_52, pX5_init_55, pX5_init_56, pX5_init_58, pX5_init_60, pX5_init_63, pX5_init_64, pX5_init_66, pX5_init_68, pX5_init_71, pX5_init_72, pX5_init_74, pX5_init_76, pX5_init_79, pX5_init_80, pX5_init_81, pX5_init_84, nI_add, pk_mul, xn_sub, xn_and, xn_or, xn_xor, xn_shl, xn_shr, xn_lt, xn_le, xn_eq, xrf_some, xup_eq, xup_ne, xrow_eq, xrow_ne, Option.toList_some, Option.toList_none, List.singleton_append, List.nil_append, List.cons_append, xnl_n, xnl_i, xnl_r, Nat.zero_add, Nat.add_zero, ↓reduceIte, Nat.reduceEqDiff, Nat.reduceLeDiff, Nat.reduceAdd, Nat.reduceMul, Nat.reduceLT, Nat.one_ne_zero, eq_self, not_true_eq_false, not_false_eq_true, and_self, hT, xnew_T, xsetr_T, Nat.add_assoc]
end INI
