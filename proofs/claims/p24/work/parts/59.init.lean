/-! ===== constructors ===== -/
theorem xnew_T {S : xSh} {kd n z : Nat} : (xnew S kd n z).2.1 = S.2.1 + 1 := rfl
theorem xnew_Z {S : xSh} {kd n z : Nat} : (xnew S kd n z).2.2 = S.2.2 + z := rfl
theorem xsetr_T {S : xSh} {a k : Nat} {r : Option Nat} : (xsetr S a k r).2.1 = S.2.1 := rfl
theorem xsetr_Z {S : xSh} {a k : Nat} {r : Option Nat} : (xsetr S a k r).2.2 = S.2.2 := rfl
theorem xnew_ln (S : xSh) (kd n z b : Nat) : xln (xnew S kd n z) b = if b = S.2.1 then n else xln S b := by unfold xln xnew; by_cases h : b = S.2.1 <;> simp [h]
theorem xnew_rf (S : xSh) (kd n z b j : Nat) : xrf (xnew S kd n z) b j = if b = S.2.1 then none else xrf S b j := by unfold xrf xnew; by_cases h : b = S.2.1 <;> simp [h]
theorem xsetr_rf (S : xSh) (a k : Nat) (r : Option Nat) (b j : Nat) : xrf (xsetr S a k r) b j = if b = a ∧ j = k then r else xrf S b j := by
  unfold xrf xsetr
  by_cases h : b = a
  · subst h; by_cases hj : j = k <;> simp [hj]
  · simp [h]
/-- cells from lo up to hi are new; all others as they were -/
def nFr (S S' : xSh) (V V' : xV) (lo hi : Nat) : Prop := ∀ a, a < lo ∨ hi ≤ a → S'.1 a = S.1 a ∧ V' a = V a
section INI
variable {E : Nat × Nat × Nat} {S : xSh} {V V' W : xV} {Q : Option Value → xSh → xV → Prop} {t b x : Nat}
theorem xnew_1 {kd n z a : Nat} (h : ¬ a = S.2.1) : (xnew S kd n z).1 a = S.1 a := by simp [xnew, h]
theorem xsetr_1 {k a : Nat} {r : Option Nat} (h : ¬ a = b) : (xsetr S b k r).1 a = S.1 a := by simp [xsetr, h]
theorem i_X0 (hk : xkd S b = 1) (hT : S.2.1 = b + 1) (hV : V b = fun _ => 0) : ∃ S' V', cShape S' b ∧ S'.2.1 = b + 5 ∧ S'.2.2 = S.2.2 + 40 ∧ nFr S S' V V' b (b + 5) ∧ (∀ a, b ≤ a → a < b + 5 → V' a = fun _ => 0) ∧ ∀ Q : Option Value → xSh → xV → Prop, xC E mX0_init [.ref b] S V Q ↔ Q none S' V' := by
  refine ⟨xsetr (xnew (xsetr (xnew (xsetr (xnew (xsetr (xnew S 7 16 16) b 0 (some (b + 1))) 7 16 16) b 1 (some (b + 2))) 7 4 4) b 2 (some (b + 3))) 7 4 4) b 3 (some (b + 4)), xrow (xrow (xrow (xrow V (b + 1) (fun _ => 0)) (b + 2) (fun _ => 0)) (b + 3) (fun _ => 0)) (b + 4) (fun _ => 0), ?_, ?_, ?_, fun a ha => ⟨?_, ?_⟩, fun a h1 h2 => ?_, fun Q => ?_⟩
  · unfold cShape
    simp [xnew_kd, xsetr_kd, xnew_ln, xsetr_ln, xnew_rf, xsetr_rf, xnew_T, xsetr_T, hT, hk, Nat.add_assoc]
  · simp [xnew_T, xsetr_T, hT]
  · simp [xnew_Z, xsetr_Z]
  · rw [xsetr_1 (by omega), xnew_1 (by simp [xnew_T, xsetr_T, hT]; omega), xsetr_1 (by omega), xnew_1 (by simp [xnew_T, xsetr_T, hT]; omega), xsetr_1 (by omega), xnew_1 (by simp [xnew_T, xsetr_T, hT]; omega), xsetr_1 (by omega), xnew_1 (by omega)]
  · rw [xrow_ne (by omega), xrow_ne (by omega), xrow_ne (by omega), xrow_ne (by omega)]
  · have hc : a = b ∨ a = b + 1 ∨ a = b + 2 ∨ a = b + 3 ∨ a = b + 4 := by omega
    rcases hc with rfl | rfl | rfl | rfl | rfl <;> simp [xrow, hV]
  · show xX E mX0_init 0 [some (.ref b)] [] S V Q ↔ _
    simp (disch := (first | assumption | exact xnl_i _ | exact xnl_r _ | exact xnl_n | omega | exact Nat.le_of_ble_eq_true rfl | rfl | decide | (simp [xnew_kd, xsetr_kd, xnew_T, xsetr_T, hT, hk, Nat.add_assoc]; done))) only [pX0_init_0, pX0_init_1, pX0_init_4, pX0_init_5, pX0_init_7, pX0_init_9, pX0_init_12, pX0_init_13, pX0_init_15, pX0_init_17, pX0_init_20, pX0_init_21, pX0_init_22, pX0_init_24, pX0_init_27, pX0_init_28, pX0_init_29, pX0_init_31, pX0_init_34, nI_add, pk_mul, xn_sub, xn_and, xn_or, xn_xor, xn_shl, xn_shr, xn_lt, xn_le, xn_eq, xrf_some, xup_eq, xup_ne, xrow_eq, xrow_ne, Option.toList_some, Option.toList_none, List.singleton_append, List.nil_append, List.cons_append, xnl_n, xnl_i, xnl_r, Nat.zero_add, Nat.add_zero, ↓reduceIte, Nat.reduceEqDiff, Nat.reduceLeDiff, Nat.reduceAdd, Nat.reduceMul, Nat.reduceLT, Nat.one_ne_zero, eq_self, not_true_eq_false, not_false_eq_true, and_self, hT, xnew_T, xsetr_T, Nat.add_assoc]
theorem i_X3 (hk : xkd S b = 4) (hT : S.2.1 = b + 1) (hV : V b = fun _ => 0) : ∃ S' V', (xkd S' b = 4 ∧ xrf S' b 0 = some (b + 1) ∧ xrf S' b 2 = some (b + 2) ∧ xrf S' b 3 = some (b + 3) ∧ xkd S' (b + 1) = 8 ∧ xln S' (b + 1) = 72 ∧ xkd S' (b + 2) = 7 ∧ xln S' (b + 2) = 16 ∧ xkd S' (b + 3) = 7 ∧ xln S' (b + 3) = 16) ∧ S'.2.1 = b + 4 ∧ S'.2.2 = S.2.2 + 104 ∧ nFr S S' V V' b (b + 4) ∧ (∀ a, b ≤ a → a < b + 4 → V' a = fun _ => 0) ∧ ∀ Q : Option Value → xSh → xV → Prop, xC E mX3_init [.ref b] S V Q ↔ Q none S' V' := by
  refine ⟨xsetr (xnew (xsetr (xnew (xsetr (xnew S 8 72 72) b 0 (some (b + 1))) 7 16 16) b 2 (some (b + 2))) 7 16 16) b 3 (some (b + 3)), xrow (xrow (xrow V (b + 1) (fun _ => 0)) (b + 2) (fun _ => 0)) (b + 3) (fun _ => 0), ?_, ?_, ?_, fun a ha => ⟨?_, ?_⟩, fun a h1 h2 => ?_, fun Q => ?_⟩
  · simp [xnew_kd, xsetr_kd, xnew_ln, xsetr_ln, xnew_rf, xsetr_rf, xnew_T, xsetr_T, hT, hk, Nat.add_assoc]
  · simp [xnew_T, xsetr_T, hT]
  · simp [xnew_Z, xsetr_Z]
  · rw [xsetr_1 (by omega), xnew_1 (by simp [xnew_T, xsetr_T, hT]; omega), xsetr_1 (by omega), xnew_1 (by simp [xnew_T, xsetr_T, hT]; omega), xsetr_1 (by omega), xnew_1 (by omega)]
  · rw [xrow_ne (by omega), xrow_ne (by omega), xrow_ne (by omega)]
  · have hc : a = b ∨ a = b + 1 ∨ a = b + 2 ∨ a = b + 3 := by omega
    rcases hc with rfl | rfl | rfl | rfl <;> simp [xrow, hV]
  · show xX E mX3_init 0 [some (.ref b)] [] S V Q ↔ _
    simp (disch := (first | assumption | exact xnl_i _ | exact xnl_r _ | exact xnl_n | omega | exact Nat.le_of_ble_eq_true rfl | rfl | decide | (simp [xnew_kd, xsetr_kd, xnew_T, xsetr_T, hT, hk, Nat.add_assoc]; done))) only [pX3_init_0, pX3_init_1, pX3_init_4, pX3_init_5, pX3_init_7, pX3_init_9, pX3_init_12, pX3_init_13, pX3_init_15, pX3_init_17, pX3_init_20, pX3_init_21, pX3_init_23, pX3_init_25, pX3_init_28, nI_add, pk_mul, xn_sub, xn_and, xn_or, xn_xor, xn_shl, xn_shr, xn_lt, xn_le, xn_eq, xrf_some, xup_eq, xup_ne, xrow_eq, xrow_ne, Option.toList_some, Option.toList_none, List.singleton_append, List.nil_append, List.cons_append, xnl_n, xnl_i, xnl_r, Nat.zero_add, Nat.add_zero, ↓reduceIte, Nat.reduceEqDiff, Nat.reduceLeDiff, Nat.reduceAdd, Nat.reduceMul, Nat.reduceLT, Nat.one_ne_zero, eq_self, not_true_eq_false, not_false_eq_true, and_self, hT, xnew_T, xsetr_T, Nat.add_assoc]
theorem cShape_o {S' : xSh} (h : cShape S b) (ho : ∀ a, b ≤ a → a ≤ b + 4 → S'.1 a = S.1 a) : cShape S' b := by
  unfold cShape xkd xln xrf at h ⊢
  rw [ho b (by omega) (by omega), ho (b + 1) (by omega) (by omega), ho (b + 2) (by omega) (by omega), ho (b + 3) (by omega) (by omega), ho (b + 4) (by omega) (by omega)]
  exact h
theorem i_X2 {mb : Nat} (hk : xkd S mb = 3) (hT : S.2.1 = mb + 1) (hV : V mb = fun _ => 0) : ∃ S' V', kShape S' mb ∧ S'.2.1 = mb + 44 ∧ S'.2.2 = S.2.2 + 428 ∧ nFr S S' V V' mb (mb + 44) ∧ (∀ a, mb ≤ a → a < mb + 44 → ¬ a = mb + 2 → V' a = fun _ => 0) ∧ (∀ k, k < 4 → V' (mb + 2) k = -6) ∧ ∀ Q : Option Value → xSh → xV → Prop, xC E mX2_init [.ref mb] S V Q ↔ Q none S' V' := by
  -- the arrays
  obtain ⟨S1, hS1⟩ : ∃ S1, S1 = xsetr (xnew (xsetr (xnew (xsetr (xnew S 10 8 8) mb 0 (some (mb + 1))) 7 4 4) mb 1 (some (mb + 2))) 7 8 8) mb 2 (some (mb + 3)) := ⟨_, rfl⟩
  obtain ⟨V1, hV1⟩ : ∃ V1, V1 = xrow (xrow (xrow V (mb + 1) (fun _ => 0)) (mb + 2) (fun _ => 0)) (mb + 3) (fun _ => 0) := ⟨_, rfl⟩
  have hbase : xkd S1 mb = 3 ∧ xrf S1 mb 0 = some (mb + 1) ∧ xrf S1 mb 1 = some (mb + 2) ∧ xrf S1 mb 2 = some (mb + 3) ∧ xkd S1 (mb + 1) = 10 ∧ xln S1 (mb + 1) = 8 ∧ xkd S1 (mb + 2) = 7 ∧ xln S1 (mb + 2) = 4 ∧ xkd S1 (mb + 3) = 7 ∧ xln S1 (mb + 3) = 8 := by
    rw [hS1]
    simp [xnew_kd, xsetr_kd, xnew_ln, xsetr_ln, xnew_rf, xsetr_rf, xnew_T, xsetr_T, hT, hk, Nat.add_assoc]
  have hT1 : S1.2.1 = mb + 4 := by rw [hS1]; simp [xnew_T, xsetr_T, hT]
  have hZ1 : S1.2.2 = S.2.2 + 20 := by rw [hS1]; simp [xnew_Z, xsetr_Z]
  have hf1 : nFr S S1 V V1 mb (mb + 4) := fun a ha => by
    rw [hS1, hV1]
    refine ⟨?_, ?_⟩
    · rw [xsetr_1 (by omega), xnew_1 (by simp [xnew_T, xsetr_T, hT]; omega), xsetr_1 (by omega), xnew_1 (by simp [xnew_T, xsetr_T, hT]; omega), xsetr_1 (by omega), xnew_1 (by omega)]
    · rw [xrow_ne (by omega), xrow_ne (by omega), xrow_ne (by omega)]
  have hz1 : ∀ a, mb ≤ a → a < mb + 4 → V1 a = fun _ => 0 := fun a h1 h2 => by
    rw [hV1]
    have hc : a = mb ∨ a = mb + 1 ∨ a = mb + 2 ∨ a = mb + 3 := by omega
    rcases hc with rfl | rfl | rfl | rfl <;> simp [xrow, hV]
  have head : ∀ Q : Option Value → xSh → xV → Prop, xC E mX2_init [.ref mb] S V Q ↔ xX E mX2_init 30 [some (.ref mb), some (.int (nI 0))] [] S1 V1 Q := by
    intro Q
    rw [hS1, hV1]
    show xX E mX2_init 0 [some (.ref mb), none] [] S V Q ↔ _
    simp (disch := (first | assumption | exact xnl_i _ | exact xnl_r _ | exact xnl_n | omega | exact Nat.le_of_ble_eq_true rfl | rfl | decide | (simp [xnew_kd, xsetr_kd, xnew_T, xsetr_T, hT, hk, Nat.add_assoc]; done))) only [pX2_init_0, pX2_init_1, pX2_init_4, pX2_init_5, pX2_init_7, pX2_init_10, pX2_init_13, pX2_init_14, pX2_init_15, pX2_init_17, pX2_init_20, pX2_init_21, pX2_init_23, pX2_init_25, pX2_init_28, pX2_init_29, nI_add, pk_mul, xn_sub, xn_and, xn_or, xn_xor, xn_shl, xn_shr, xn_lt, xn_le, xn_eq, xrf_some, xup_eq, xup_ne, xrow_eq, xrow_ne, Option.toList_some, Option.toList_none, List.singleton_append, List.nil_append, List.cons_append, xnl_n, xnl_i, xnl_r, Nat.zero_add, Nat.add_zero, ↓reduceIte, Nat.reduceEqDiff, Nat.reduceLeDiff, Nat.reduceAdd, Nat.reduceMul, Nat.reduceLT, Nat.one_ne_zero, eq_self, not_true_eq_false, not_false_eq_true, and_self, hT, xnew_T, xsetr_T, Nat.add_assoc]
  clear hS1 hV1
  -- the contexts
  have loop : ∀ k i S2 V2, i + k = 8 → S2.2.1 = mb + (4 + 5 * i) → S2.2.2 = S.2.2 + (20 + 51 * i) → (xkd S2 mb = 3 ∧ xrf S2 mb 0 = some (mb + 1) ∧ xrf S2 mb 1 = some (mb + 2) ∧ xrf S2 mb 2 = some (mb + 3) ∧ xkd S2 (mb + 1) = 10 ∧ xln S2 (mb + 1) = 8 ∧ xkd S2 (mb + 2) = 7 ∧ xln S2 (mb + 2) = 4 ∧ xkd S2 (mb + 3) = 7 ∧ xln S2 (mb + 3) = 8) → (∀ c, c < i → xrf S2 (mb + 1) c = some (mb + (4 + 5 * c)) ∧ cShape S2 (mb + (4 + 5 * c))) → nFr S S2 V V2 mb (mb + (4 + 5 * i)) → (∀ a, mb ≤ a → a < mb + (4 + 5 * i) → V2 a = fun _ => 0) → ∃ S' V', kShape S' mb ∧ S'.2.1 = mb + 44 ∧ S'.2.2 = S.2.2 + 428 ∧ nFr S S' V V' mb (mb + 44) ∧ (∀ a, mb ≤ a → a < mb + 44 → V' a = fun _ => 0) ∧ ∀ Q : Option Value → xSh → xV → Prop, xX E mX2_init 30 [some (.ref mb), some (.int (nI i))] [] S2 V2 Q ↔ xX E mX2_init 55 [some (.ref mb), some (.int (nI 8))] [] S' V' Q := by
    intro k
    induction k with
    | zero =>
      intro i S2 V2 hi hT2 hZ2 hb2 hc2 hf2 hz2
      have hi : i = 8 := by omega
      subst hi
      refine ⟨S2, V2, ⟨hb2.1, hb2.2.1, hb2.2.2.1, hb2.2.2.2.1, hb2.2.2.2.2.1, hb2.2.2.2.2.2.1, hb2.2.2.2.2.2.2.1, hb2.2.2.2.2.2.2.2.1, hb2.2.2.2.2.2.2.2.2.1, hb2.2.2.2.2.2.2.2.2.2, hc2⟩, hT2, hZ2, hf2, hz2, fun Q => ?_⟩
      simp (disch := (first | assumption | exact xnl_i _ | exact xnl_r _ | exact xnl_n | exact Bool.toNat_lt _ | exact hb _ | exact hb2 _ | omega | exact Nat.le_of_ble_eq_true rfl | rfl | decide)) only [pX2_init_30, pX2_init_31, pX2_init_33, nI_add, pk_mul, xn_sub, xn_and, xn_or, xn_xor, xn_shl, xn_shr, xn_lt, xn_le, xn_eq, xrf_some, xup_eq, xup_ne, xrow_eq, xrow_ne, Option.toList_some, Option.toList_none, List.singleton_append, List.nil_append, List.cons_append, xnl_n, xnl_i, xnl_r, Nat.zero_add, Nat.add_zero, ↓reduceIte, Nat.reduceEqDiff, Nat.reduceLeDiff, Nat.reduceAdd, Nat.reduceMul, Nat.reduceLT, Nat.one_ne_zero, eq_self, not_true_eq_false, not_false_eq_true, and_self]
    | succ k ih =>
      intro i S2 V2 hi hT2 hZ2 hb2 hc2 hf2 hz2
      have h8 : ¬ 8 ≤ i := by omega
      have hi8 : i < 8 := by omega
      obtain ⟨b1, b2, b3, b4, b5, b6, b7, b8, b9, b10⟩ := hb2
      obtain ⟨B, hB⟩ : ∃ B, B = mb + (4 + 5 * i) := ⟨_, rfl⟩
      rw [← hB] at hT2 hf2 hz2
      have n1 : xkd (xnew S2 1 0 11) B = 1 := by rw [xnew_kd, hT2, if_pos rfl]
      have n2 : (xnew S2 1 0 11).2.1 = B + 1 := by rw [xnew_T, hT2]
      have n3 : xrow V2 B (fun _ => 0) B = fun _ => 0 := xrow_eq
      obtain ⟨S3, V3, c1, c2, c3, c4, c5, c6⟩ := i_X0 (E := E) (S := xnew S2 1 0 11) (V := xrow V2 B (fun _ => 0)) n1 n2 n3
      have o1 : ∀ a, a < B → S3.1 a = S2.1 a ∧ V3 a = V2 a := fun a ha => by
        obtain ⟨q1, q2⟩ := c4 a (by omega)
        exact ⟨q1.trans (xnew_1 (by omega)), q2.trans (xrow_ne (by omega))⟩
      have o2 : ∀ a, B + 5 ≤ a → S3.1 a = S2.1 a ∧ V3 a = V2 a := fun a ha => by
        obtain ⟨q1, q2⟩ := c4 a (by omega)
        exact ⟨q1.trans (xnew_1 (by omega)), q2.trans (xrow_ne (by omega))⟩
      have k3 : ∀ a, a < B → xkd S3 a = xkd S2 a ∧ xln S3 a = xln S2 a ∧ ∀ j, xrf S3 a j = xrf S2 a j := fun a ha => by
        unfold xkd xln xrf; rw [(o1 a ha).1]; exact ⟨rfl, rfl, fun _ => rfl⟩
      have kB : xkd S3 B = 1 := c1.1
      obtain ⟨S4, hS4⟩ : ∃ S4, S4 = xsetr S3 (mb + 1) i (some B) := ⟨_, rfl⟩
      have k4 : ∀ a, xkd S4 a = xkd S3 a ∧ xln S4 a = xln S3 a := fun a => by rw [hS4]; exact ⟨xsetr_kd _ _ _ _ _, xsetr_ln _ _ _ _ _⟩
      have r4 : ∀ a j, ¬ (a = mb + 1 ∧ j = i) → xrf S4 a j = xrf S3 a j := fun a j h => by rw [hS4, xsetr_rf, if_neg h]
      have s4 : ∀ a, ¬ a = mb + 1 → S4.1 a = S3.1 a := fun a h => by rw [hS4]; exact xsetr_1 h
      obtain ⟨S', V', d1, d2, d3, d4, d5, d6⟩ := ih (i + 1) S4 V3 (by omega) (by rw [hS4, xsetr_T, c2]; omega) (by rw [hS4, xsetr_Z, c3, xnew_Z, hZ2]; omega) ⟨by rw [(k4 _).1, (k3 _ (by omega)).1]; exact b1, by rw [r4 _ _ (by omega), (k3 _ (by omega)).2.2]; exact b2, by rw [r4 _ _ (by omega), (k3 _ (by omega)).2.2]; exact b3, by rw [r4 _ _ (by omega), (k3 _ (by omega)).2.2]; exact b4, by rw [(k4 _).1, (k3 _ (by omega)).1]; exact b5, by rw [(k4 _).2, (k3 _ (by omega)).2.1]; exact b6, by rw [(k4 _).1, (k3 _ (by omega)).1]; exact b7, by rw [(k4 _).2, (k3 _ (by omega)).2.1]; exact b8, by rw [(k4 _).1, (k3 _ (by omega)).1]; exact b9, by rw [(k4 _).2, (k3 _ (by omega)).2.1]; exact b10⟩ (fun c hc => by
          by_cases hci : c = i
          · subst hci
            refine ⟨by rw [hS4, xsetr_rf, if_pos ⟨rfl, rfl⟩, hB], ?_⟩
            rw [← hB]
            exact cShape_o c1 (fun a h1 h2 => s4 a (by omega))
          · obtain ⟨e1, e2⟩ := hc2 c (by omega)
            exact ⟨by rw [r4 _ _ (by omega), (k3 _ (by omega)).2.2]; exact e1, cShape_o e2 (fun a h1 h2 => by rw [s4 a (by omega), (o1 a (by omega)).1])⟩) (fun a ha => by
          rcases ha with ha | ha
          · obtain ⟨f1, f2⟩ := hf2 a (Or.inl ha)
            obtain ⟨g1, g2⟩ := o1 a (by omega)
            exact ⟨by rw [s4 a (by omega), g1]; exact f1, by rw [g2]; exact f2⟩
          · obtain ⟨f1, f2⟩ := hf2 a (Or.inr (by omega))
            obtain ⟨g1, g2⟩ := o2 a (by omega)
            exact ⟨by rw [s4 a (by omega), g1]; exact f1, by rw [g2]; exact f2⟩) (fun a h1 h2 => by
          by_cases hab : a < B
          · rw [(o1 a hab).2]; exact hz2 a h1 hab
          · exact c5 a (by omega) (by omega))
      refine ⟨S', V', d1, d2, d3, d4, d5, fun Q => ?_⟩
      refine Iff.trans ?_ (d6 Q)
      have b1' : xkd (xnew S2 1 0 11) mb = 3 := by rw [xnew_kd, if_neg (by omega)]; exact b1
      have m5 : xkd S3 (mb + 1) = 10 := by rw [(k3 _ (by omega)).1]; exact b5
      have m6 : xln S3 (mb + 1) = 8 := by rw [(k3 _ (by omega)).2.1]; exact b6
      rw [pX2_init_30]
      simp (disch := (first | assumption | exact xnl_i _ | exact xnl_r _ | exact xnl_n | exact Bool.toNat_lt _ | exact hb _ | exact hb2 _ | omega | exact Nat.le_of_ble_eq_true rfl | rfl | decide)) only [pX2_init_31, pX2_init_33, pX2_init_36, pX2_init_37, pX2_init_40, pX2_init_41, pX2_init_44, pX2_init_44i, pX2_init_45, pX2_init_48, pX2_init_49, pX2_init_52, nI_add, pk_mul, xn_sub, xn_and, xn_or, xn_xor, xn_shl, xn_shr, xn_lt, xn_le, xn_eq, xrf_some, xup_eq, xup_ne, xrow_eq, xrow_ne, Option.toList_some, Option.toList_none, List.singleton_append, List.nil_append, List.cons_append, xnl_n, xnl_i, xnl_r, Nat.zero_add, Nat.add_zero, ↓reduceIte, Nat.reduceEqDiff, Nat.reduceLeDiff, Nat.reduceAdd, Nat.reduceMul, Nat.reduceLT, Nat.one_ne_zero, eq_self, not_true_eq_false, not_false_eq_true, and_self, h8, b1, b2, hT2, c6]
      rw [hS4]
  obtain ⟨S', V', d1, d2, d3, d4, d5, d6⟩ := loop 8 0 S1 V1 rfl hT1 hZ1 hbase (fun c hc => by omega) hf1 hz1
  -- the holders
  have hd1 := d1
  obtain ⟨mk0, mr0, mr1, mr2, mk1, mn1, mk2, mn2, mk3, mn3, mcs⟩ := hd1
  have loop2 : ∀ k i W, i + k = 4 → (∀ a, ¬ a = mb + 2 → W a = V' a) → (∀ j, j < i → W (mb + 2) j = -6) → ∃ W', (∀ a, ¬ a = mb + 2 → W' a = V' a) ∧ (∀ j, j < 4 → W' (mb + 2) j = -6) ∧ ∀ Q : Option Value → xSh → xV → Prop, xX E mX2_init 57 [some (.ref mb), some (.int (nI i))] [] S' W Q ↔ Q none S' W' := by
    intro k
    induction k with
    | zero =>
      intro i W hi ho hj
      have hi : i = 4 := by omega
      subst hi
      refine ⟨W, ho, hj, fun Q => ?_⟩
      simp (disch := (first | assumption | exact xnl_i _ | exact xnl_r _ | exact xnl_n | exact Bool.toNat_lt _ | exact hb _ | exact hb2 _ | omega | exact Nat.le_of_ble_eq_true rfl | rfl | decide)) only [pX2_init_57, pX2_init_58, pX2_init_59, pX2_init_62, pX2_init_63, pX2_init_66, pX2_init_67, pX2_init_69, pX2_init_70, pX2_init_73, pX2_init_76, nI_add, pk_mul, xn_sub, xn_and, xn_or, xn_xor, xn_shl, xn_shr, xn_lt, xn_le, xn_eq, xrf_some, xup_eq, xup_ne, xrow_eq, xrow_ne, Option.toList_some, Option.toList_none, List.singleton_append, List.nil_append, List.cons_append, xnl_n, xnl_i, xnl_r, Nat.zero_add, Nat.add_zero, ↓reduceIte, Nat.reduceEqDiff, Nat.reduceLeDiff, Nat.reduceAdd, Nat.reduceMul, Nat.reduceLT, Nat.one_ne_zero, eq_self, not_true_eq_false, not_false_eq_true, and_self]
    | succ k ih =>
      intro i W hi ho hj
      have h4 : ¬ 4 ≤ i := by omega
      obtain ⟨W', a1, a2, a3⟩ := ih (i + 1) (xup W (mb + 2) i (-6)) (by omega) (fun a ha => by rw [xup_rn ha]; exact ho a ha) (fun j hj2 => by
        by_cases hji : j = i
        · subst hji; exact xup_eq
        · rw [xup_ne (by omega)]; exact hj j (by omega))
      refine ⟨W', a1, a2, fun Q => ?_⟩
      refine Iff.trans ?_ (a3 Q)
      rw [pX2_init_57]
      simp (disch := (first | assumption | exact xnl_i _ | exact xnl_r _ | exact xnl_n | exact Bool.toNat_lt _ | exact hb _ | exact hb2 _ | omega | exact Nat.le_of_ble_eq_true rfl | rfl | decide)) only [pX2_init_58, pX2_init_59, pX2_init_62, pX2_init_63, pX2_init_66, pX2_init_67, pX2_init_69, pX2_init_70, pX2_init_73, nI_add, pk_mul, xn_sub, xn_and, xn_or, xn_xor, xn_shl, xn_shr, xn_lt, xn_le, xn_eq, xrf_some, xup_eq, xup_ne, xrow_eq, xrow_ne, Option.toList_some, Option.toList_none, List.singleton_append, List.nil_append, List.cons_append, xnl_n, xnl_i, xnl_r, Nat.zero_add, Nat.add_zero, ↓reduceIte, Nat.reduceEqDiff, Nat.reduceLeDiff, Nat.reduceAdd, Nat.reduceMul, Nat.reduceLT, Nat.one_ne_zero, eq_self, not_true_eq_false, not_false_eq_true, and_self, mk0, mr0, mr1, mr2, h4]
  obtain ⟨W', a1, a2, a3⟩ := loop2 4 0 V' rfl (fun _ _ => rfl) (fun j hj => by omega)
  refine ⟨S', W', d1, d2, d3, fun a ha => ⟨(d4 a ha).1, by rw [a1 a (by omega)]; exact (d4 a ha).2⟩, fun a h1 h2 h3 => by rw [a1 a h3]; exact d5 a h1 h2, a2, fun Q => ?_⟩
  rw [head, d6]
  refine Iff.trans ?_ (a3 Q)
  simp (disch := (first | assumption | exact xnl_i _ | exact xnl_r _ | exact xnl_n | exact Bool.toNat_lt _ | exact hb _ | exact hb2 _ | omega | exact Nat.le_of_ble_eq_true rfl | rfl | decide)) only [pX2_init_55, pX2_init_56, nI_add, pk_mul, xn_sub, xn_and, xn_or, xn_xor, xn_shl, xn_shr, xn_lt, xn_le, xn_eq, xrf_some, xup_eq, xup_ne, xrow_eq, xrow_ne, Option.toList_some, Option.toList_none, List.singleton_append, List.nil_append, List.cons_append, xnl_n, xnl_i, xnl_r, Nat.zero_add, Nat.add_zero, ↓reduceIte, Nat.reduceEqDiff, Nat.reduceLeDiff, Nat.reduceAdd, Nat.reduceMul, Nat.reduceLT, Nat.one_ne_zero, eq_self, not_true_eq_false, not_false_eq_true, and_self]
end INI

