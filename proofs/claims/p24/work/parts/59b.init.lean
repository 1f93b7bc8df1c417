/-! ===== constructors, further on ===== -/
section INJ
variable {E : Nat × Nat × Nat} {S : xSh} {V V' W : xV} {Q : Option Value → xSh → xV → Prop} {t b x : Nat}
theorem kShape_o {S' : xSh} {mb : Nat} (h : kShape S mb) (ho : ∀ a, mb ≤ a → a < mb + 44 → S'.1 a = S.1 a) : kShape S' mb := by
  obtain ⟨h1, h2, h3, h4, h5, h6, h7, h8, h9, h10, h11⟩ := h
  have e : ∀ a, mb ≤ a → a < mb + 44 → xkd S' a = xkd S a ∧ xln S' a = xln S a ∧ ∀ j, xrf S' a j = xrf S a j := fun a q1 q2 => by
    unfold xkd xln xrf; rw [ho a q1 q2]; exact ⟨rfl, rfl, fun _ => rfl⟩
  have e0 := e mb (by omega) (by omega)
  have e1 := e (mb + 1) (by omega) (by omega)
  have e2 := e (mb + 2) (by omega) (by omega)
  have e3 := e (mb + 3) (by omega) (by omega)
  exact ⟨by rw [e0.1]; exact h1, by rw [e0.2.2]; exact h2, by rw [e0.2.2]; exact h3, by rw [e0.2.2]; exact h4, by rw [e1.1]; exact h5, by rw [e1.2.1]; exact h6, by rw [e2.1]; exact h7, by rw [e2.2.1]; exact h8, by rw [e3.1]; exact h9, by rw [e3.2.1]; exact h10, fun c hc => ⟨by rw [e1.2.2]; exact (h11 c hc).1, cShape_o (h11 c hc).2 (fun a q1 q2 => ho a (by omega) (by omega))⟩⟩
/-- a machine made, at the heap's end -/
theorem i_new2 {B : Nat} (hT : S.2.1 = B) : ∃ S' V', kShape S' B ∧ S'.2.1 = B + 44 ∧ S'.2.2 = S.2.2 + 434 ∧ nFr S S' V V' B (B + 44) ∧ (∀ a, B ≤ a → a < B + 44 → ¬ a = B + 2 → V' a = fun _ => 0) ∧ (∀ k, k < 4 → V' (B + 2) k = -6) ∧ ∀ Q : Option Value → xSh → xV → Prop, xC E mX2_init [.ref B] (xnew S 3 0 6) (xrow V B (fun _ => 0)) Q ↔ Q none S' V' := by
  have n1 : xkd (xnew S 3 0 6) B = 3 := by rw [xnew_kd, hT, if_pos rfl]
  have n2 : (xnew S 3 0 6).2.1 = B + 1 := by rw [xnew_T, hT]
  have n3 : xrow V B (fun _ => 0) B = fun _ => 0 := xrow_eq
  obtain ⟨S', V', c1, c2, c3, c4, c5, c6, c7⟩ := i_X2 (E := E) (S := xnew S 3 0 6) (V := xrow V B (fun _ => 0)) n1 n2 n3
  refine ⟨S', V', c1, c2, by rw [c3, xnew_Z], fun a ha => ?_, c5, c6, c7⟩
  obtain ⟨q1, q2⟩ := c4 a ha
  exact ⟨q1.trans (xnew_1 (by omega)), q2.trans (xrow_ne (by omega))⟩
theorem i_X1 {hb : Nat} (hk : xkd S hb = 2) (hT : S.2.1 = hb + 1) (hV : V hb = fun _ => 0) : ∃ S' V', (xkd S' hb = 2 ∧ xrf S' hb 0 = some (hb + 1) ∧ xkd S' (hb + 1) = 11 ∧ xln S' (hb + 1) = 6) ∧ (∀ i, i < 6 → xrf S' (hb + 1) i = some (hb + (2 + 44 * i)) ∧ kShape S' (hb + (2 + 44 * i))) ∧ S'.2.1 = hb + 266 ∧ S'.2.2 = S.2.2 + 2610 ∧ nFr S S' V V' hb (hb + 266) ∧ V' hb = (fun _ => 0) ∧ ∀ Q : Option Value → xSh → xV → Prop, xC E mX1_init [.ref hb] S V Q ↔ Q none S' V' := by
  obtain ⟨S1, hS1⟩ : ∃ S1, S1 = xsetr (xnew S 11 6 6) hb 0 (some (hb + 1)) := ⟨_, rfl⟩
  obtain ⟨V1, hV1⟩ : ∃ V1, V1 = xrow V (hb + 1) (fun _ => 0) := ⟨_, rfl⟩
  have hbase : xkd S1 hb = 2 ∧ xrf S1 hb 0 = some (hb + 1) ∧ xkd S1 (hb + 1) = 11 ∧ xln S1 (hb + 1) = 6 := by
    rw [hS1]
    simp [xnew_kd, xsetr_kd, xnew_ln, xsetr_ln, xnew_rf, xsetr_rf, xnew_T, xsetr_T, hT, hk, Nat.add_assoc]
  have hT1 : S1.2.1 = hb + 2 := by rw [hS1]; simp [xnew_T, xsetr_T, hT]
  have hZ1 : S1.2.2 = S.2.2 + 6 := by rw [hS1]; simp [xnew_Z, xsetr_Z]
  have hf1 : nFr S S1 V V1 hb (hb + 2) := fun a ha => by
    rw [hS1, hV1]
    exact ⟨by rw [xsetr_1 (by omega), xnew_1 (by omega)], by rw [xrow_ne (by omega)]⟩
  have hz1 : V1 hb = fun _ => 0 := by rw [hV1, xrow_ne (by omega)]; exact hV
  have head : ∀ Q : Option Value → xSh → xV → Prop, xC E mX1_init [.ref hb] S V Q ↔ xX E mX1_init 15 [some (.ref hb), some (.int (nI 0))] [] S1 V1 Q := by
    intro Q
    rw [hS1, hV1]
    show xX E mX1_init 0 [some (.ref hb), none] [] S V Q ↔ _
    simp (disch := (first | assumption | exact xnl_i _ | exact xnl_r _ | exact xnl_n | omega | exact Nat.le_of_ble_eq_true rfl | rfl | decide | (simp [xnew_kd, xsetr_kd, xnew_T, xsetr_T, hT, hk, Nat.add_assoc]; done))) only [pX1_init_0, pX1_init_1, pX1_init_4, pX1_init_5, pX1_init_7, pX1_init_10, pX1_init_13, pX1_init_14, nI_add, pk_mul, xn_sub, xn_and, xn_or, xn_xor, xn_shl, xn_shr, xn_lt, xn_le, xn_eq, xrf_some, xup_eq, xup_ne, xrow_eq, xrow_ne, Option.toList_some, Option.toList_none, List.singleton_append, List.nil_append, List.cons_append, xnl_n, xnl_i, xnl_r, Nat.zero_add, Nat.add_zero, ↓reduceIte, Nat.reduceEqDiff, Nat.reduceLeDiff, Nat.reduceAdd, Nat.reduceMul, Nat.reduceLT, Nat.one_ne_zero, eq_self, not_true_eq_false, not_false_eq_true, and_self, hT, xnew_T, xsetr_T, Nat.add_assoc]
  clear hS1 hV1
  have loop : ∀ k i S2 V2, i + k = 6 → S2.2.1 = hb + (2 + 44 * i) → S2.2.2 = S.2.2 + (6 + 434 * i) → (xkd S2 hb = 2 ∧ xrf S2 hb 0 = some (hb + 1) ∧ xkd S2 (hb + 1) = 11 ∧ xln S2 (hb + 1) = 6) → (∀ c, c < i → xrf S2 (hb + 1) c = some (hb + (2 + 44 * c)) ∧ kShape S2 (hb + (2 + 44 * c))) → nFr S S2 V V2 hb (hb + (2 + 44 * i)) → V2 hb = (fun _ => 0) → ∃ S' V', (xkd S' hb = 2 ∧ xrf S' hb 0 = some (hb + 1) ∧ xkd S' (hb + 1) = 11 ∧ xln S' (hb + 1) = 6) ∧ (∀ i, i < 6 → xrf S' (hb + 1) i = some (hb + (2 + 44 * i)) ∧ kShape S' (hb + (2 + 44 * i))) ∧ S'.2.1 = hb + 266 ∧ S'.2.2 = S.2.2 + 2610 ∧ nFr S S' V V' hb (hb + 266) ∧ V' hb = (fun _ => 0) ∧ ∀ Q : Option Value → xSh → xV → Prop, xX E mX1_init 15 [some (.ref hb), some (.int (nI i))] [] S2 V2 Q ↔ Q none S' V' := by
    intro k
    induction k with
    | zero =>
      intro i S2 V2 hi hT2 hZ2 hb2 hc2 hf2 hz2
      have hi : i = 6 := by omega
      subst hi
      refine ⟨S2, V2, hb2, hc2, hT2, hZ2, hf2, hz2, fun Q => ?_⟩
      simp (disch := (first | assumption | exact xnl_i _ | exact xnl_r _ | exact xnl_n | exact Bool.toNat_lt _ | exact hb _ | exact hb2 _ | omega | exact Nat.le_of_ble_eq_true rfl | rfl | decide)) only [pX1_init_15, pX1_init_16, pX1_init_18, pX1_init_21, pX1_init_22, pX1_init_25, pX1_init_26, pX1_init_29, pX1_init_29i, pX1_init_30, pX1_init_33, pX1_init_34, pX1_init_37, pX1_init_40, nI_add, pk_mul, xn_sub, xn_and, xn_or, xn_xor, xn_shl, xn_shr, xn_lt, xn_le, xn_eq, xrf_some, xup_eq, xup_ne, xrow_eq, xrow_ne, Option.toList_some, Option.toList_none, List.singleton_append, List.nil_append, List.cons_append, xnl_n, xnl_i, xnl_r, Nat.zero_add, Nat.add_zero, ↓reduceIte, Nat.reduceEqDiff, Nat.reduceLeDiff, Nat.reduceAdd, Nat.reduceMul, Nat.reduceLT, Nat.one_ne_zero, eq_self, not_true_eq_false, not_false_eq_true, and_self]
    | succ k ih =>
      intro i S2 V2 hi hT2 hZ2 hb2 hc2 hf2 hz2
      have h8 : ¬ 6 ≤ i := by omega
      have hi8 : i < 6 := by omega
      obtain ⟨b1, b2, b5, b6⟩ := hb2
      obtain ⟨B, hB⟩ : ∃ B, B = hb + (2 + 44 * i) := ⟨_, rfl⟩
      rw [← hB] at hT2 hf2
      obtain ⟨S3, V3, c1, c2, c3, c4, c5, c5', c6⟩ := i_new2 (E := E) (V := V2) hT2
      have o1 : ∀ a, a < B ∨ B + 44 ≤ a → S3.1 a = S2.1 a ∧ V3 a = V2 a := c4
      have k3 : ∀ a, a < B → xkd S3 a = xkd S2 a ∧ xln S3 a = xln S2 a ∧ ∀ j, xrf S3 a j = xrf S2 a j := fun a ha => by
        unfold xkd xln xrf; rw [(o1 a (Or.inl ha)).1]; exact ⟨rfl, rfl, fun _ => rfl⟩
      have kB : xkd S3 B = 3 := c1.1
      obtain ⟨S4, hS4⟩ : ∃ S4, S4 = xsetr S3 (hb + 1) i (some B) := ⟨_, rfl⟩
      have k4 : ∀ a, xkd S4 a = xkd S3 a ∧ xln S4 a = xln S3 a := fun a => by rw [hS4]; exact ⟨xsetr_kd _ _ _ _ _, xsetr_ln _ _ _ _ _⟩
      have r4 : ∀ a j, ¬ (a = hb + 1 ∧ j = i) → xrf S4 a j = xrf S3 a j := fun a j h => by rw [hS4, xsetr_rf, if_neg h]
      have s4 : ∀ a, ¬ a = hb + 1 → S4.1 a = S3.1 a := fun a h => by rw [hS4]; exact xsetr_1 h
      obtain ⟨S', V', d1, d2, d3, d4, d5, d6, d7⟩ := ih (i + 1) S4 V3 (by omega) (by rw [hS4, xsetr_T, c2]; omega) (by rw [hS4, xsetr_Z, c3, hZ2]; omega) ⟨by rw [(k4 _).1, (k3 _ (by omega)).1]; exact b1, by rw [r4 _ _ (by omega), (k3 _ (by omega)).2.2]; exact b2, by rw [(k4 _).1, (k3 _ (by omega)).1]; exact b5, by rw [(k4 _).2, (k3 _ (by omega)).2.1]; exact b6⟩ (fun c hc => by
          by_cases hci : c = i
          · subst hci
            refine ⟨by rw [hS4, xsetr_rf, if_pos ⟨rfl, rfl⟩, hB], ?_⟩
            rw [← hB]
            exact kShape_o c1 (fun a h1 h2 => s4 a (by omega))
          · obtain ⟨e1, e2⟩ := hc2 c (by omega)
            exact ⟨by rw [r4 _ _ (by omega), (k3 _ (by omega)).2.2]; exact e1, kShape_o e2 (fun a h1 h2 => by rw [s4 a (by omega), (o1 a (by omega)).1])⟩) (fun a ha => by
          obtain ⟨f1, f2⟩ := hf2 a (by omega)
          obtain ⟨g1, g2⟩ := o1 a (by omega)
          exact ⟨by rw [s4 a (by omega), g1]; exact f1, by rw [g2]; exact f2⟩) (by rw [(o1 hb (by omega)).2]; exact hz2)
      refine ⟨S', V', d1, d2, d3, d4, d5, d6, fun Q => ?_⟩
      refine Iff.trans ?_ (d7 Q)
      have m5 : xkd S3 (hb + 1) = 11 := by rw [(k3 _ (by omega)).1]; exact b5
      have m6 : xln S3 (hb + 1) = 6 := by rw [(k3 _ (by omega)).2.1]; exact b6
      rw [pX1_init_15]
      simp (disch := (first | assumption | exact xnl_i _ | exact xnl_r _ | exact xnl_n | exact Bool.toNat_lt _ | exact hb _ | exact hb2 _ | omega | exact Nat.le_of_ble_eq_true rfl | rfl | decide)) only [pX1_init_16, pX1_init_18, pX1_init_21, pX1_init_22, pX1_init_25, pX1_init_26, pX1_init_29, pX1_init_29i, pX1_init_30, pX1_init_33, pX1_init_34, pX1_init_37, nI_add, pk_mul, xn_sub, xn_and, xn_or, xn_xor, xn_shl, xn_shr, xn_lt, xn_le, xn_eq, xrf_some, xup_eq, xup_ne, xrow_eq, xrow_ne, Option.toList_some, Option.toList_none, List.singleton_append, List.nil_append, List.cons_append, xnl_n, xnl_i, xnl_r, Nat.zero_add, Nat.add_zero, ↓reduceIte, Nat.reduceEqDiff, Nat.reduceLeDiff, Nat.reduceAdd, Nat.reduceMul, Nat.reduceLT, Nat.one_ne_zero, eq_self, not_true_eq_false, not_false_eq_true, and_self, h8, b1, b2, hT2, c6]
      rw [hS4]
  obtain ⟨S', V', d1, d2, d3, d4, d5, d6, d7⟩ := loop 6 0 S1 V1 rfl hT1 hZ1 hbase (fun c hc => by omega) hf1 hz1
  exact ⟨S', V', d1, d2, d3, d4, d5, d6, fun Q => by rw [head]; exact d7 Q⟩
end INJ

