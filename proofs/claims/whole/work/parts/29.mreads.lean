/-! ===== the reference: a whole text read ===== -/
def pcodes (W : xV) (t m : Nat) (f : Nat → Nat × Nat) : Prop := ∀ i, i < m → W (t + 9) (2 * i) = nI (f i).1 ∧ W (t + 9) (2 * i + 1) = nI (f i).2
def ptail (g : pG) (n a m : Nat) (f : Nat → Nat × Nat) : Option Nat × Nat × (Nat → Nat × Nat) :=
  if a < gln g then (if pch g a = 44 ∧ m < 16 then prd g n (a + 1) m f else (some a, m, f)) else (none, m, f)
theorem prd_s {g : pG} {n a m : Nat} {f : Nat → Nat × Nat} : prd g (n + 1) a m f = match pkd (pch g a) with
    | none => (some a, m, f)
    | some k => if (pnum g k (a + 1)).1 = true then ptail g n (pnum g k (a + 1)).2.2 (m + 1) (fun i => if i = m then (k, (pnum g k (a + 1)).2.1) else f i) else (some (pnum g k (a + 1)).2.2, m, f) := by
  unfold ptail
  rw [prd]
  cases pkd (pch g a) <;> rfl
theorem pkd_le {c k : Nat} (h : pkd c = some k) : k ≤ 6 ∧ 0 < c := by
  unfold pkd at h
  by_cases h1 : c = 97
  · rw [if_pos h1] at h; cases h; omega
  · rw [if_neg h1] at h
    by_cases h2 : c = 115
    · rw [if_pos h2] at h; cases h; omega
    · rw [if_neg h2] at h
      by_cases h3 : c = 116
      · rw [if_pos h3] at h; cases h; omega
      · rw [if_neg h3] at h
        by_cases h4 : c = 108
        · rw [if_pos h4] at h; cases h; omega
        · rw [if_neg h4] at h
          by_cases h5 : c = 102
          · rw [if_pos h5] at h; cases h; omega
          · rw [if_neg h5] at h
            by_cases h6 : c = 119
            · rw [if_pos h6] at h; cases h; omega
            · rw [if_neg h6] at h
              by_cases h7 : c = 98
              · rw [if_pos h7] at h; cases h; omega
              · rw [if_neg h7] at h; cases h
theorem pnum_end {g : pG} (hG : gG g) {k a : Nat} (ha : a ≤ 73) : (pnum g k a).2.2 ≤ 73 := by
  have e1 := fun h => (pch_end hG (i := a) h).2
  have e2 := fun h => (pch_end hG (i := a + 1) h).2
  have h0 : ∀ lo hi, 0 < lo → (pn0 g lo hi a).2.2 ≤ 73 := by
    intro lo hi hl
    unfold pn0
    split
    · rename_i h; have := e1 (by omega); show a + 1 ≤ 73; omega
    · exact ha
  unfold pnum
  split
  · unfold pn2
    split
    · rename_i h; have := e1 (by omega)
      split
      · rename_i h2; have := e2 (by omega); show a + 2 ≤ 73; omega
      · show a + 1 ≤ 73; omega
    · exact ha
  · split
    · exact h0 _ _ (by decide)
    · split
      · exact h0 _ _ (by decide)
      · split
        · unfold pnb
          split
          · rename_i h; have := e1 (by omega)
            split
            · rename_i h2; have := e2 (by omega)
              split
              · show a + 2 ≤ 73; omega
              · show a + 1 ≤ 73; omega
            · show a + 1 ≤ 73; omega
          · exact ha
        · exact ha
section MRS
variable {E : Nat × Nat × Nat} {S : xSh} {V W : xV} {Q : Option Value → xSh → xV → Prop} {t a : Nat} {g : pG}
theorem s_readsCommand {m : Nat} {f : Nat → Nat × Nat} (hR : mRep S V t g) (hG : gG g) (hF : pF V W t) (ha : W t 11 = nI a) (hs : a ≤ 73) (hw : W t 12 = nI 1) (hm : W t 15 = nI m) (hm16 : m < 16) (hc : pcodes W t m f) : ∃ W', pF V W' t ∧ W' t 13 = W t 13 ∧ (match pkd (pch g a) with
    | none => W' t 12 = nI 0 ∧ W' t 11 = nI a
    | some k => W' t 12 = nI (pnum g k (a + 1)).1.toNat ∧ W' t 11 = nI (pnum g k (a + 1)).2.2 ∧ W' t 15 = nI (m + 1) ∧ ((pnum g k (a + 1)).1 = true → pcodes W' t (m + 1) (fun i => if i = m then (k, (pnum g k (a + 1)).2.1) else f i))) ∧ ∀ Q : Option Value → xSh → xV → Prop, xC E mX5_readsCommand [.ref t] S W Q ↔ Q none S W' := by
  have hS := hR.1
  have hS' := hS; obtain ⟨k0, r1, r2, r3, r5, r6, r7, r9, r10, r14, k1, n1, k2, n2, k3, n3, k4, n4, k5, n5, k6, n6, k7, n7, k8, n8, k9, n9⟩ := hS'
  have hsW := fun (Q : Option Value → xSh → xV → Prop) => s_sign (E := E) (Q := Q) hR hG hF ha (by omega)
  have hch := pch_lt hG a
  have hby := fun (Q : Option Value → xSh → xV → Prop) => s_commandBy (E := E) (S := S) (V := W) (Q := Q) hch
  cases hk : pkd (pch g a) with
  | none =>
    rw [hk] at hby
    refine ⟨xup W t 12 (nI 0), pF_up hF (by decide), by rw [xup_ne (by omega)], ⟨by rw [xup_eq], by rw [xup_ne (by omega)]; exact ha⟩, fun Q => ?_⟩
    show xX E mX5_readsCommand 0 [some (.ref t), none, none] [] S W Q ↔ _
    simp (disch := (first | assumption | exact xnl_i _ | exact xnl_r _ | exact xnl_n | exact Bool.toNat_lt _ | exact hb _ | exact hb2 _ | omega | exact Nat.le_of_ble_eq_true rfl | rfl | decide)) only [pX5_readsCommand_0, pX5_readsCommand_1, pX5_readsCommand_4, pX5_readsCommand_7, pX5_readsCommand_8, pX5_readsCommand_9, pX5_readsCommand_10, pX5_readsCommand_13, pX5_readsCommand_16, pX5_readsCommand_17, pX5_readsCommand_19, pX5_readsCommand_22, pX5_readsCommand_23, pX5_readsCommand_26, pX5_readsCommand_27, pX5_readsCommand_30, pX5_readsCommand_31, pX5_readsCommand_34, pX5_readsCommand_37, nI_add, pk_mul, xn_sub, xn_and, xn_or, xn_xor, xn_shl, xn_shr, xn_lt, xn_le, xn_eq, xrf_some, xup_eq, xup_ne, xrow_eq, xrow_ne, Option.toList_some, Option.toList_none, List.singleton_append, List.nil_append, List.cons_append, xnl_n, xnl_i, xnl_r, Nat.zero_add, Nat.add_zero, ↓reduceIte, Nat.reduceEqDiff, Nat.reduceLeDiff, Nat.reduceAdd, Nat.reduceMul, Nat.reduceLT, Nat.one_ne_zero, eq_self, not_true_eq_false, not_false_eq_true, and_self, k0, r1, r2, r3, r5, r6, r7, r9, r10, r14, hsW, hby, rv, hw]
  | some k =>
    rw [hk] at hby
    obtain ⟨hk6, hc0⟩ := pkd_le hk
    have hae := pch_end hG hc0
    have hne : ¬ nI k = -6 := xn_ne6 (by omega)
    -- behind the letter
    obtain ⟨W1, hW1⟩ : ∃ W1, W1 = xup (xup W t 12 (nI 1)) t 11 (nI (a + 1)) := ⟨_, rfl⟩
    have f1 : pF V W1 t := by rw [hW1]; exact pF_up (pF_up hF (by decide)) (by decide)
    have a1 : W1 t 11 = nI (a + 1) := by rw [hW1, xup_eq]
    have w1 : W1 t 12 = nI 1 := by rw [hW1, xup_ne (by omega), xup_eq]
    have n1 : W1 t 13 = W t 13 := by rw [hW1, xup_ne (by omega), xup_ne (by omega)]
    have m1 : W1 t 15 = nI m := by rw [hW1, xup_ne (by omega), xup_ne (by omega)]; exact hm
    have c1 : W1 (t + 9) = W (t + 9) := by rw [hW1]; funext i; rw [xup_ne (by omega), xup_ne (by omega)]
    have hd : ∀ Q : Option Value → xSh → xV → Prop, xX E mX5_readsCommand 0 [some (.ref t), none, none] [] S W Q ↔ xX E mX5_readsCommand 50 [some (.ref t), some (.int (nI k)), some (.int (nI 0))] [] S W1 Q := by
      intro Q
      rw [hW1]
      simp (disch := (first | assumption | exact xnl_i _ | exact xnl_r _ | exact xnl_n | exact Bool.toNat_lt _ | exact hb _ | exact hb2 _ | omega | exact Nat.le_of_ble_eq_true rfl | rfl | decide)) only [pX5_readsCommand_0, pX5_readsCommand_1, pX5_readsCommand_4, pX5_readsCommand_7, pX5_readsCommand_8, pX5_readsCommand_9, pX5_readsCommand_10, pX5_readsCommand_13, pX5_readsCommand_16, pX5_readsCommand_17, pX5_readsCommand_19, pX5_readsCommand_22, pX5_readsCommand_23, pX5_readsCommand_26, pX5_readsCommand_27, pX5_readsCommand_30, pX5_readsCommand_31, pX5_readsCommand_34, pX5_readsCommand_37, pX5_readsCommand_38, pX5_readsCommand_39, pX5_readsCommand_39i, pX5_readsCommand_40, pX5_readsCommand_43, pX5_readsCommand_44, pX5_readsCommand_45, pX5_readsCommand_48, pX5_readsCommand_49, nI_add, pk_mul, xn_sub, xn_and, xn_or, xn_xor, xn_shl, xn_shr, xn_lt, xn_le, xn_eq, xrf_some, xup_eq, xup_ne, xrow_eq, xrow_ne, Option.toList_some, Option.toList_none, List.singleton_append, List.nil_append, List.cons_append, xnl_n, xnl_i, xnl_r, Nat.zero_add, Nat.add_zero, ↓reduceIte, Nat.reduceEqDiff, Nat.reduceLeDiff, Nat.reduceAdd, Nat.reduceMul, Nat.reduceLT, Nat.one_ne_zero, eq_self, not_true_eq_false, not_false_eq_true, and_self, k0, r1, r2, r3, r5, r6, r7, r9, r10, r14, hsW, hby, rv, hw, hne, ha]
    -- its number
    have hnum : ∃ W2 r, pF V W2 t ∧ pK W1 W2 t ∧ W2 t 12 = nI (pnum g k (a + 1)).1.toNat ∧ W2 t 11 = nI (pnum g k (a + 1)).2.2 ∧ ((pnum g k (a + 1)).1 = true → r = nI (pnum g k (a + 1)).2.1) ∧ ∀ Q : Option Value → xSh → xV → Prop, xX E mX5_readsCommand 50 [some (.ref t), some (.int (nI k)), some (.int (nI 0))] [] S W1 Q ↔ xX E mX5_readsCommand 117 [some (.ref t), some (.int (nI k)), some (.int r)] [] S W2 Q := by
      have hcase : k = 0 ∨ k = 1 ∨ k = 2 ∨ k = 3 ∨ k = 4 ∨ k = 5 ∨ k = 6 := by omega
      have hsub : ∀ lo hi, (pn0 g lo hi (a + 1)).1 = true → nI (pch g (a + 1)) - nI lo = nI (pn0 g lo hi (a + 1)).2.1 := by
        intro lo hi h
        unfold pn0 at h ⊢
        split at h
        · rename_i h2; rw [if_pos h2]; exact xn_sub h2.1
        · cases h
      rcases hcase with rfl | rfl | rfl | rfl | rfl | rfl | rfl
      · obtain ⟨W2, r, f2, k2, w2, a2, r2, i2⟩ := s_number (E := E) hR hG f1 a1 (by omega) w1
        refine ⟨W2, r, f2, k2, w2, a2, r2, fun Q => ?_⟩
        simp (disch := (first | assumption | exact xnl_i _ | exact xnl_r _ | exact xnl_n | exact Bool.toNat_lt _ | exact hb _ | exact hb2 _ | omega | exact Nat.le_of_ble_eq_true rfl | rfl | decide)) only [pX5_readsCommand_50, pX5_readsCommand_51, pX5_readsCommand_54, pX5_readsCommand_55, pX5_readsCommand_56, pX5_readsCommand_59, pX5_readsCommand_60, pX5_readsCommand_63, pX5_readsCommand_64, nI_add, pk_mul, xn_sub, xn_and, xn_or, xn_xor, xn_shl, xn_shr, xn_lt, xn_le, xn_eq, xrf_some, xup_eq, xup_ne, xrow_eq, xrow_ne, Option.toList_some, Option.toList_none, List.singleton_append, List.nil_append, List.cons_append, xnl_n, xnl_i, xnl_r, Nat.zero_add, Nat.add_zero, ↓reduceIte, Nat.reduceEqDiff, Nat.reduceLeDiff, Nat.reduceAdd, Nat.reduceMul, Nat.reduceLT, Nat.one_ne_zero, eq_self, not_true_eq_false, not_false_eq_true, and_self, k0, r1, r2, r3, r5, r6, r7, r9, r10, r14, i2]
      · obtain ⟨W2, f2, k2, w2, a2, i2⟩ := s_takesSign (E := E) (lo := 48) (hi := 55) (w := true) hR hG f1 a1 (by omega) w1 (by decide) (by decide)
        refine ⟨W2, _, f2, k2, w2, a2, hsub 48 55, fun Q => ?_⟩
        simp (disch := (first | assumption | exact xnl_i _ | exact xnl_r _ | exact xnl_n | exact Bool.toNat_lt _ | exact hb _ | exact hb2 _ | omega | exact Nat.le_of_ble_eq_true rfl | rfl | decide)) only [pX5_readsCommand_50, pX5_readsCommand_51, pX5_readsCommand_54, pX5_readsCommand_55, pX5_readsCommand_56, pX5_readsCommand_67, pX5_readsCommand_68, pX5_readsCommand_69, pX5_readsCommand_72, pX5_readsCommand_73, pX5_readsCommand_75, pX5_readsCommand_77, pX5_readsCommand_80, pX5_readsCommand_81, nI_add, pk_mul, xn_and, xn_or, xn_xor, xn_shl, xn_shr, xn_lt, xn_le, xn_eq, xrf_some, xup_eq, xup_ne, xrow_eq, xrow_ne, Option.toList_some, Option.toList_none, List.singleton_append, List.nil_append, List.cons_append, xnl_n, xnl_i, xnl_r, Nat.zero_add, Nat.add_zero, ↓reduceIte, Nat.reduceEqDiff, Nat.reduceLeDiff, Nat.reduceAdd, Nat.reduceMul, Nat.reduceLT, Nat.one_ne_zero, eq_self, not_true_eq_false, not_false_eq_true, and_self, k0, r1, r2, r3, r5, r6, r7, r9, r10, r14, i2]
      · refine ⟨W1, nI 0, f1, ⟨rfl, rfl, rfl⟩, w1, a1, fun _ => rfl, fun Q => ?_⟩
        simp (disch := (first | assumption | exact xnl_i _ | exact xnl_r _ | exact xnl_n | exact Bool.toNat_lt _ | exact hb _ | exact hb2 _ | omega | exact Nat.le_of_ble_eq_true rfl | rfl | decide)) only [pX5_readsCommand_50, pX5_readsCommand_51, pX5_readsCommand_54, pX5_readsCommand_55, pX5_readsCommand_56, pX5_readsCommand_59, pX5_readsCommand_60, pX5_readsCommand_63, pX5_readsCommand_64, pX5_readsCommand_67, pX5_readsCommand_68, pX5_readsCommand_69, pX5_readsCommand_72, pX5_readsCommand_73, pX5_readsCommand_75, pX5_readsCommand_77, pX5_readsCommand_80, pX5_readsCommand_81, pX5_readsCommand_84, pX5_readsCommand_85, pX5_readsCommand_86, pX5_readsCommand_89, pX5_readsCommand_90, pX5_readsCommand_91, pX5_readsCommand_94, pX5_readsCommand_95, pX5_readsCommand_97, pX5_readsCommand_99, pX5_readsCommand_102, pX5_readsCommand_103, pX5_readsCommand_106, pX5_readsCommand_107, pX5_readsCommand_109, nI_add, pk_mul, xn_and, xn_or, xn_xor, xn_shl, xn_shr, xn_lt, xn_le, xn_eq, xrf_some, xup_eq, xup_ne, xrow_eq, xrow_ne, Option.toList_some, Option.toList_none, List.singleton_append, List.nil_append, List.cons_append, xnl_n, xnl_i, xnl_r, Nat.zero_add, Nat.add_zero, ↓reduceIte, Nat.reduceEqDiff, Nat.reduceLeDiff, Nat.reduceAdd, Nat.reduceMul, Nat.reduceLT, Nat.one_ne_zero, eq_self, not_true_eq_false, not_false_eq_true, and_self, k0, r1, r2, r3, r5, r6, r7, r9, r10, r14]
      · obtain ⟨W2, f2, k2, w2, a2, i2⟩ := s_takesSign (E := E) (lo := 48) (hi := 51) (w := true) hR hG f1 a1 (by omega) w1 (by decide) (by decide)
        refine ⟨W2, _, f2, k2, w2, a2, hsub 48 51, fun Q => ?_⟩
        simp (disch := (first | assumption | exact xnl_i _ | exact xnl_r _ | exact xnl_n | exact Bool.toNat_lt _ | exact hb _ | exact hb2 _ | omega | exact Nat.le_of_ble_eq_true rfl | rfl | decide)) only [pX5_readsCommand_50, pX5_readsCommand_51, pX5_readsCommand_54, pX5_readsCommand_55, pX5_readsCommand_56, pX5_readsCommand_59, pX5_readsCommand_60, pX5_readsCommand_63, pX5_readsCommand_64, pX5_readsCommand_67, pX5_readsCommand_68, pX5_readsCommand_69, pX5_readsCommand_72, pX5_readsCommand_73, pX5_readsCommand_75, pX5_readsCommand_77, pX5_readsCommand_80, pX5_readsCommand_81, pX5_readsCommand_84, pX5_readsCommand_85, pX5_readsCommand_86, pX5_readsCommand_89, pX5_readsCommand_90, pX5_readsCommand_91, pX5_readsCommand_94, pX5_readsCommand_95, pX5_readsCommand_97, pX5_readsCommand_99, pX5_readsCommand_102, pX5_readsCommand_103, pX5_readsCommand_106, pX5_readsCommand_107, pX5_readsCommand_109, nI_add, pk_mul, xn_and, xn_or, xn_xor, xn_shl, xn_shr, xn_lt, xn_le, xn_eq, xrf_some, xup_eq, xup_ne, xrow_eq, xrow_ne, Option.toList_some, Option.toList_none, List.singleton_append, List.nil_append, List.cons_append, xnl_n, xnl_i, xnl_r, Nat.zero_add, Nat.add_zero, ↓reduceIte, Nat.reduceEqDiff, Nat.reduceLeDiff, Nat.reduceAdd, Nat.reduceMul, Nat.reduceLT, Nat.one_ne_zero, eq_self, not_true_eq_false, not_false_eq_true, and_self, k0, r1, r2, r3, r5, r6, r7, r9, r10, r14, i2]
      · obtain ⟨W2, f2, k2, w2, a2, i2⟩ := s_takesSign (E := E) (lo := 48) (hi := 51) (w := true) hR hG f1 a1 (by omega) w1 (by decide) (by decide)
        refine ⟨W2, _, f2, k2, w2, a2, hsub 48 51, fun Q => ?_⟩
        simp (disch := (first | assumption | exact xnl_i _ | exact xnl_r _ | exact xnl_n | exact Bool.toNat_lt _ | exact hb _ | exact hb2 _ | omega | exact Nat.le_of_ble_eq_true rfl | rfl | decide)) only [pX5_readsCommand_50, pX5_readsCommand_51, pX5_readsCommand_54, pX5_readsCommand_55, pX5_readsCommand_56, pX5_readsCommand_59, pX5_readsCommand_60, pX5_readsCommand_63, pX5_readsCommand_64, pX5_readsCommand_67, pX5_readsCommand_68, pX5_readsCommand_69, pX5_readsCommand_72, pX5_readsCommand_73, pX5_readsCommand_75, pX5_readsCommand_77, pX5_readsCommand_80, pX5_readsCommand_81, pX5_readsCommand_84, pX5_readsCommand_85, pX5_readsCommand_86, pX5_readsCommand_89, pX5_readsCommand_90, pX5_readsCommand_91, pX5_readsCommand_94, pX5_readsCommand_95, pX5_readsCommand_97, pX5_readsCommand_99, pX5_readsCommand_102, pX5_readsCommand_103, pX5_readsCommand_106, pX5_readsCommand_107, pX5_readsCommand_109, nI_add, pk_mul, xn_and, xn_or, xn_xor, xn_shl, xn_shr, xn_lt, xn_le, xn_eq, xrf_some, xup_eq, xup_ne, xrow_eq, xrow_ne, Option.toList_some, Option.toList_none, List.singleton_append, List.nil_append, List.cons_append, xnl_n, xnl_i, xnl_r, Nat.zero_add, Nat.add_zero, ↓reduceIte, Nat.reduceEqDiff, Nat.reduceLeDiff, Nat.reduceAdd, Nat.reduceMul, Nat.reduceLT, Nat.one_ne_zero, eq_self, not_true_eq_false, not_false_eq_true, and_self, k0, r1, r2, r3, r5, r6, r7, r9, r10, r14, i2]
      · obtain ⟨W2, r, f2, k2, w2, a2, r2, i2⟩ := s_number (E := E) hR hG f1 a1 (by omega) w1
        refine ⟨W2, r, f2, k2, w2, a2, r2, fun Q => ?_⟩
        simp (disch := (first | assumption | exact xnl_i _ | exact xnl_r _ | exact xnl_n | exact Bool.toNat_lt _ | exact hb _ | exact hb2 _ | omega | exact Nat.le_of_ble_eq_true rfl | rfl | decide)) only [pX5_readsCommand_50, pX5_readsCommand_51, pX5_readsCommand_54, pX5_readsCommand_55, pX5_readsCommand_56, pX5_readsCommand_59, pX5_readsCommand_60, pX5_readsCommand_63, pX5_readsCommand_64, pX5_readsCommand_67, pX5_readsCommand_68, pX5_readsCommand_69, pX5_readsCommand_72, pX5_readsCommand_73, pX5_readsCommand_75, pX5_readsCommand_77, pX5_readsCommand_80, pX5_readsCommand_81, pX5_readsCommand_84, pX5_readsCommand_85, pX5_readsCommand_86, pX5_readsCommand_89, pX5_readsCommand_90, pX5_readsCommand_91, pX5_readsCommand_94, pX5_readsCommand_95, pX5_readsCommand_97, pX5_readsCommand_99, pX5_readsCommand_102, pX5_readsCommand_103, pX5_readsCommand_106, pX5_readsCommand_107, pX5_readsCommand_109, nI_add, pk_mul, xn_and, xn_or, xn_xor, xn_shl, xn_shr, xn_lt, xn_le, xn_eq, xrf_some, xup_eq, xup_ne, xrow_eq, xrow_ne, Option.toList_some, Option.toList_none, List.singleton_append, List.nil_append, List.cons_append, xnl_n, xnl_i, xnl_r, Nat.zero_add, Nat.add_zero, ↓reduceIte, Nat.reduceEqDiff, Nat.reduceLeDiff, Nat.reduceAdd, Nat.reduceMul, Nat.reduceLT, Nat.one_ne_zero, eq_self, not_true_eq_false, not_false_eq_true, and_self, k0, r1, r2, r3, r5, r6, r7, r9, r10, r14, i2]
      · obtain ⟨W2, r, f2, k2, w2, a2, r2, i2⟩ := s_numberOfBack (E := E) hR hG f1 a1 (by omega) w1
        refine ⟨W2, r, f2, k2, w2, a2, r2, fun Q => ?_⟩
        simp (disch := (first | assumption | exact xnl_i _ | exact xnl_r _ | exact xnl_n | exact Bool.toNat_lt _ | exact hb _ | exact hb2 _ | omega | exact Nat.le_of_ble_eq_true rfl | rfl | decide)) only [pX5_readsCommand_50, pX5_readsCommand_51, pX5_readsCommand_54, pX5_readsCommand_55, pX5_readsCommand_56, pX5_readsCommand_59, pX5_readsCommand_60, pX5_readsCommand_63, pX5_readsCommand_64, pX5_readsCommand_67, pX5_readsCommand_68, pX5_readsCommand_69, pX5_readsCommand_72, pX5_readsCommand_73, pX5_readsCommand_75, pX5_readsCommand_77, pX5_readsCommand_80, pX5_readsCommand_81, pX5_readsCommand_84, pX5_readsCommand_85, pX5_readsCommand_86, pX5_readsCommand_89, pX5_readsCommand_90, pX5_readsCommand_91, pX5_readsCommand_94, pX5_readsCommand_95, pX5_readsCommand_97, pX5_readsCommand_99, pX5_readsCommand_102, pX5_readsCommand_103, pX5_readsCommand_106, pX5_readsCommand_107, pX5_readsCommand_109, pX5_readsCommand_112, pX5_readsCommand_113, pX5_readsCommand_116, nI_add, pk_mul, xn_and, xn_or, xn_xor, xn_shl, xn_shr, xn_lt, xn_le, xn_eq, xrf_some, xup_eq, xup_ne, xrow_eq, xrow_ne, Option.toList_some, Option.toList_none, List.singleton_append, List.nil_append, List.cons_append, xnl_n, xnl_i, xnl_r, Nat.zero_add, Nat.add_zero, ↓reduceIte, Nat.reduceEqDiff, Nat.reduceLeDiff, Nat.reduceAdd, Nat.reduceMul, Nat.reduceLT, Nat.one_ne_zero, eq_self, not_true_eq_false, not_false_eq_true, and_self, k0, r1, r2, r3, r5, r6, r7, r9, r10, r14, i2]
    obtain ⟨W2, r, f2, k2, w2, a2, r2, i2⟩ := hnum
    have m2 : W2 t 15 = nI m := k2.2.1.trans m1
    refine ⟨xup (xup (xup W2 (t + 9) (2 * m) (nI k)) (t + 9) (2 * m + 1) r) t 15 (nI (m + 1)), pF_up (pF_9 (pF_9 f2)) (by decide), by rw [xup_ne (by omega), xup_ne (by omega), xup_ne (by omega), k2.1, n1], ⟨by rw [xup_ne (by omega), xup_ne (by omega), xup_ne (by omega)]; exact w2, by rw [xup_ne (by omega), xup_ne (by omega), xup_ne (by omega)]; exact a2, by rw [xup_eq], fun hok i hi => ?_⟩, fun Q => ?_⟩
    · rw [r2 hok]
      by_cases him : i = m
      · subst him
        dsimp only
        rw [if_pos rfl, xup_ne (by omega), xup_ne (by omega), xup_eq, xup_ne (by omega), xup_eq]
        exact ⟨rfl, rfl⟩
      · dsimp only
        rw [if_neg him, xup_ne (by omega), xup_ne (by omega), xup_ne (by omega), xup_ne (by omega), xup_ne (by omega), xup_ne (by omega), k2.2.2, c1]
        exact hc i (by omega)
    · show xX E mX5_readsCommand 0 [some (.ref t), none, none] [] S W Q ↔ _
      rw [hd, i2]
      simp (disch := (first | assumption | exact xnl_i _ | exact xnl_r _ | exact xnl_n | exact Bool.toNat_lt _ | exact hb _ | exact hb2 _ | omega | exact Nat.le_of_ble_eq_true rfl | rfl | decide)) only [pX5_readsCommand_117, pX5_readsCommand_118, pX5_readsCommand_121, pX5_readsCommand_122, pX5_readsCommand_123, pX5_readsCommand_126, pX5_readsCommand_127, pX5_readsCommand_128, pX5_readsCommand_129, pX5_readsCommand_130, pX5_readsCommand_133, pX5_readsCommand_134, pX5_readsCommand_135, pX5_readsCommand_138, pX5_readsCommand_139, pX5_readsCommand_140, pX5_readsCommand_141, pX5_readsCommand_142, pX5_readsCommand_143, pX5_readsCommand_144, pX5_readsCommand_144i, pX5_readsCommand_145, pX5_readsCommand_148, pX5_readsCommand_149, pX5_readsCommand_150, pX5_readsCommand_153, nI_add, pk_mul, xn_sub, xn_and, xn_or, xn_xor, xn_shl, xn_shr, xn_lt, xn_le, xn_eq, xrf_some, xup_eq, xup_ne, xrow_eq, xrow_ne, Option.toList_some, Option.toList_none, List.singleton_append, List.nil_append, List.cons_append, xnl_n, xnl_i, xnl_r, Nat.zero_add, Nat.add_zero, ↓reduceIte, Nat.reduceEqDiff, Nat.reduceLeDiff, Nat.reduceAdd, Nat.reduceMul, Nat.reduceLT, Nat.one_ne_zero, eq_self, not_true_eq_false, not_false_eq_true, and_self, k0, r1, r2, r3, r5, r6, r7, r9, r10, r14, m2]
theorem s_reads (hR : mRep S V t g) (hG : gG g) (hQ : ∀ W', pF V W' t → (∀ {p : Option Nat × Nat × (Nat → Nat × Nat)}, p = pparse g → p.1 = none → W' t 13 = nI (pch g 0 - 48) ∧ W' t 15 = nI p.2.1 ∧ p.2.1 ≤ 16 ∧ pcodes W' t p.2.1 p.2.2) → Q (some (.int (rv (pparse g).1))) S W') : xC E mX5_reads [.ref t] S V Q := by
  have hS := hR.1
  have hS' := hS; obtain ⟨k0, r1, r2, r3, r5, r6, r7, r9, r10, r14, k1, n1, k2, n2, k3, n3, k4, n4, k5, n5, k6, n6, k7, n7, k8, n8, k9, n9⟩ := hS'
  have h72 := hG.2.2.2.2.1
  have hl : ∀ W, pF V W t → W t 8 = nI (gln g) := fun W hF => by rw [hF.2 8 (by decide)]; exact hR.2.2.2.2.2.2.1
  have hb2 : ∀ i, pch g i < 2147483648 := fun i => Nat.lt_of_le_of_lt (pch_lt hG i) (by decide)
  -- the end with a fault
  have bad : ∀ W b, W t 12 = nI 0 → W t 11 = nI b → (xX E mX5_reads 65 [some (.ref t)] [] S W Q ↔ Q (some (.int (nI b))) S W) := by
    intro W b hw hb
    simp (disch := (first | assumption | exact xnl_i _ | exact xnl_r _ | exact xnl_n | exact Bool.toNat_lt _ | exact hb _ | exact hb2 _ | omega | exact Nat.le_of_ble_eq_true rfl | rfl | decide)) only [pX5_reads_65, pX5_reads_66, pX5_reads_69, pX5_reads_145, pX5_reads_146, pX5_reads_149, pX5_reads_152, pX5_reads_154, pX5_reads_157, pX5_reads_158, pX5_reads_161, nI_add, pk_mul, xn_sub, xn_and, xn_or, xn_xor, xn_shl, xn_shr, xn_lt, xn_le, xn_eq, xrf_some, xup_eq, xup_ne, xrow_eq, xrow_ne, Option.toList_some, Option.toList_none, List.singleton_append, List.nil_append, List.cons_append, xnl_n, xnl_i, xnl_r, Nat.zero_add, Nat.add_zero, ↓reduceIte, Nat.reduceEqDiff, Nat.reduceLeDiff, Nat.reduceAdd, Nat.reduceMul, Nat.reduceLT, Nat.one_ne_zero, eq_self, not_true_eq_false, not_false_eq_true, and_self, k0, r1, r2, r3, r5, r6, r7, r9, r10, r14, hw, hb]
  have fine : ∀ W a m f, W t 12 = nI 1 → W t 11 = nI a → a ≤ 74 → pF V W t → ¬ a < gln g → W t 13 = nI (pch g 0 - 48) → W t 15 = nI m → m ≤ 16 → pcodes W t m f → (none, m, f) = pparse g → xX E mX5_reads 65 [some (.ref t)] [] S W Q := by
    intro W a m f hw ha hs hF hal h13 hm hm16 hc he
    have hal' : gln g ≤ a := by omega
    have hlW := hl W hF
    have hq := hQ W hF (fun {p} h1 h2 => by rw [h1, ← he]; exact ⟨h13, hm, hm16, hc⟩)
    rw [← he] at hq
    simp (disch := (first | assumption | exact xnl_i _ | exact xnl_r _ | exact xnl_n | exact Bool.toNat_lt _ | exact hb _ | exact hb2 _ | omega | exact Nat.le_of_ble_eq_true rfl | rfl | decide)) only [pX5_reads_65, pX5_reads_66, pX5_reads_69, pX5_reads_72, pX5_reads_73, pX5_reads_76, pX5_reads_77, pX5_reads_80, pX5_reads_145, pX5_reads_146, pX5_reads_149, pX5_reads_152, pX5_reads_154, pX5_reads_157, pX5_reads_158, pX5_reads_161, nI_add, pk_mul, xn_sub, xn_and, xn_or, xn_xor, xn_shl, xn_shr, xn_lt, xn_le, xn_eq, xrf_some, xup_eq, xup_ne, xrow_eq, xrow_ne, Option.toList_some, Option.toList_none, List.singleton_append, List.nil_append, List.cons_append, xnl_n, xnl_i, xnl_r, Nat.zero_add, Nat.add_zero, ↓reduceIte, Nat.reduceEqDiff, Nat.reduceLeDiff, Nat.reduceAdd, Nat.reduceMul, Nat.reduceLT, Nat.one_ne_zero, eq_self, not_true_eq_false, not_false_eq_true, and_self, k0, r1, r2, r3, r5, r6, r7, r9, r10, r14, hw, ha, hlW, hal']
    exact hq
  -- no comma, or too many
  have nocomma : ∀ W a m f, W t 12 = nI 1 → W t 11 = nI a → a ≤ 74 → pF V W t → a < gln g → W t 15 = nI m → m ≤ 16 → ¬ (pch g a = 44 ∧ m < 16) → (some a, m, f) = pparse g → xX E mX5_reads 65 [some (.ref t)] [] S W Q := by
    intro W a m f hw ha hs hF hal hm hm16 hno he
    have hal' : ¬ gln g ≤ a := by omega
    have hq := hQ (xup (xup W t 12 (nI 0)) t 11 (nI a)) (pF_up (pF_up hF (by decide)) (by decide)) (fun {p} h1 h2 => by rw [h1, ← he] at h2; cases h2)
    rw [← he] at hq
    have hsW := fun (Q : Option Value → xSh → xV → Prop) => s_sign (E := E) (Q := Q) hR hG hF ha (by omega)
    have hlW := hl W hF
    have hb0 := bad (xup (xup W t 12 (nI 0)) t 11 (nI a)) a (by rw [xup_ne (by omega), xup_eq]) xup_eq
    by_cases h44 : pch g a = 44
    · have h16 : 16 ≤ m := by omega
      simp (disch := (first | assumption | exact xnl_i _ | exact xnl_r _ | exact xnl_n | exact Bool.toNat_lt _ | exact hb _ | exact hb2 _ | omega | exact Nat.le_of_ble_eq_true rfl | rfl | decide)) only [pX5_reads_65, pX5_reads_66, pX5_reads_69, pX5_reads_72, pX5_reads_73, pX5_reads_76, pX5_reads_77, pX5_reads_80, pX5_reads_83, pX5_reads_84, pX5_reads_85, pX5_reads_88, pX5_reads_90, pX5_reads_93, pX5_reads_94, pX5_reads_97, pX5_reads_99, pX5_reads_102, pX5_reads_103, pX5_reads_106, pX5_reads_107, pX5_reads_110, pX5_reads_111, pX5_reads_111i, pX5_reads_112, pX5_reads_115, pX5_reads_116, pX5_reads_119, pX5_reads_122, pX5_reads_123, pX5_reads_126, pX5_reads_127, pX5_reads_128, pX5_reads_131, pX5_reads_132, nI_add, pk_mul, xn_sub, xn_and, xn_or, xn_xor, xn_shl, xn_shr, xn_lt, xn_le, xn_eq, xrf_some, xup_eq, xup_ne, xrow_eq, xrow_ne, Option.toList_some, Option.toList_none, List.singleton_append, List.nil_append, List.cons_append, xnl_n, xnl_i, xnl_r, Nat.zero_add, Nat.add_zero, ↓reduceIte, Nat.reduceEqDiff, Nat.reduceLeDiff, Nat.reduceAdd, Nat.reduceMul, Nat.reduceLT, Nat.one_ne_zero, eq_self, not_true_eq_false, not_false_eq_true, and_self, k0, r1, r2, r3, r5, r6, r7, r9, r10, r14, hw, ha, hlW, hal', hsW, h44, hm, h16]
      simp (disch := (first | assumption | exact xnl_i _ | exact xnl_r _ | exact xnl_n | exact Bool.toNat_lt _ | exact hb _ | exact hb2 _ | omega | exact Nat.le_of_ble_eq_true rfl | rfl | decide)) only [pX5_reads_135, pX5_reads_138, pX5_reads_139, pX5_reads_142, pX5_reads_145, pX5_reads_146, pX5_reads_149, pX5_reads_152, pX5_reads_154, pX5_reads_157, pX5_reads_158, pX5_reads_161, nI_add, pk_mul, xn_sub, xn_and, xn_or, xn_xor, xn_shl, xn_shr, xn_lt, xn_le, xn_eq, xrf_some, xup_eq, xup_ne, xrow_eq, xrow_ne, Option.toList_some, Option.toList_none, List.singleton_append, List.nil_append, List.cons_append, xnl_n, xnl_i, xnl_r, Nat.zero_add, Nat.add_zero, ↓reduceIte, Nat.reduceEqDiff, Nat.reduceLeDiff, Nat.reduceAdd, Nat.reduceMul, Nat.reduceLT, Nat.one_ne_zero, eq_self, not_true_eq_false, not_false_eq_true, and_self, k0, r1, r2, r3, r5, r6, r7, r9, r10, r14]
      exact hb0.mpr hq
    · simp (disch := (first | assumption | exact xnl_i _ | exact xnl_r _ | exact xnl_n | exact Bool.toNat_lt _ | exact hb _ | exact hb2 _ | omega | exact Nat.le_of_ble_eq_true rfl | rfl | decide)) only [pX5_reads_65, pX5_reads_66, pX5_reads_69, pX5_reads_72, pX5_reads_73, pX5_reads_76, pX5_reads_77, pX5_reads_80, pX5_reads_83, pX5_reads_84, pX5_reads_85, pX5_reads_88, pX5_reads_90, pX5_reads_93, pX5_reads_94, pX5_reads_97, pX5_reads_99, pX5_reads_102, pX5_reads_103, pX5_reads_106, pX5_reads_107, pX5_reads_110, pX5_reads_111, pX5_reads_111i, pX5_reads_112, pX5_reads_115, pX5_reads_116, pX5_reads_119, pX5_reads_122, pX5_reads_123, pX5_reads_126, pX5_reads_127, pX5_reads_128, pX5_reads_131, pX5_reads_132, nI_add, pk_mul, xn_sub, xn_and, xn_or, xn_xor, xn_shl, xn_shr, xn_lt, xn_le, xn_eq, xrf_some, xup_eq, xup_ne, xrow_eq, xrow_ne, Option.toList_some, Option.toList_none, List.singleton_append, List.nil_append, List.cons_append, xnl_n, xnl_i, xnl_r, Nat.zero_add, Nat.add_zero, ↓reduceIte, Nat.reduceEqDiff, Nat.reduceLeDiff, Nat.reduceAdd, Nat.reduceMul, Nat.reduceLT, Nat.one_ne_zero, eq_self, not_true_eq_false, not_false_eq_true, and_self, k0, r1, r2, r3, r5, r6, r7, r9, r10, r14, hw, ha, hlW, hal', hsW, h44, hm]
      simp (disch := (first | assumption | exact xnl_i _ | exact xnl_r _ | exact xnl_n | exact Bool.toNat_lt _ | exact hb _ | exact hb2 _ | omega | exact Nat.le_of_ble_eq_true rfl | rfl | decide)) only [pX5_reads_135, pX5_reads_138, pX5_reads_139, pX5_reads_142, pX5_reads_145, pX5_reads_146, pX5_reads_149, pX5_reads_152, pX5_reads_154, pX5_reads_157, pX5_reads_158, pX5_reads_161, nI_add, pk_mul, xn_sub, xn_and, xn_or, xn_xor, xn_shl, xn_shr, xn_lt, xn_le, xn_eq, xrf_some, xup_eq, xup_ne, xrow_eq, xrow_ne, Option.toList_some, Option.toList_none, List.singleton_append, List.nil_append, List.cons_append, xnl_n, xnl_i, xnl_r, Nat.zero_add, Nat.add_zero, ↓reduceIte, Nat.reduceEqDiff, Nat.reduceLeDiff, Nat.reduceAdd, Nat.reduceMul, Nat.reduceLT, Nat.one_ne_zero, eq_self, not_true_eq_false, not_false_eq_true, and_self, k0, r1, r2, r3, r5, r6, r7, r9, r10, r14]
      exact hb0.mpr hq
  -- a command, then the loop: what is asked of the loop
  have cmd : ∀ n a m f W, n + 1 + m = 16 → a ≤ 73 → pF V W t → W t 13 = nI (pch g 0 - 48) → W t 12 = nI 1 → W t 11 = nI a → W t 15 = nI m → pcodes W t m f → prd g (n + 1) a m f = pparse g → (∀ a f W, a ≤ 73 → pF V W t → W t 13 = nI (pch g 0 - 48) → W t 12 = nI 1 → W t 11 = nI a → W t 15 = nI (m + 1) → pcodes W t (m + 1) f → ptail g n a (m + 1) f = pparse g → xX E mX5_reads 65 [some (.ref t)] [] S W Q) → ∃ W', (∀ Q : Option Value → xSh → xV → Prop, xC E mX5_readsCommand [.ref t] S W Q ↔ Q none S W') ∧ xX E mX5_reads 65 [some (.ref t)] [] S W' Q := by
    intro n a m f W hn hs hF h13 hw ha hm hc he ih
    obtain ⟨W', f', n', hcase, hi⟩ := s_readsCommand (E := E) hR hG hF ha hs hw hm (by omega) hc
    refine ⟨W', hi, ?_⟩
    rw [prd_s] at he
    cases hk : pkd (pch g a) with
    | none =>
      rw [hk] at hcase he
      obtain ⟨hw0, ha0⟩ := hcase
      have he : (some a, m, f) = pparse g := he
      have hq := hQ W' f' (fun {p} h1 h2 => by rw [h1, ← he] at h2; cases h2)
      rw [← he] at hq
      exact (bad W' a hw0 ha0).mpr hq
    | some k =>
      rw [hk] at hcase he
      obtain ⟨hw0, ha0, hm0, hc0⟩ := hcase
      have he : (if (pnum g k (a + 1)).1 = true then ptail g n (pnum g k (a + 1)).2.2 (m + 1) (fun i => if i = m then (k, (pnum g k (a + 1)).2.1) else f i) else (some (pnum g k (a + 1)).2.2, m, f)) = pparse g := he
      obtain ⟨hk6, hch0⟩ := pkd_le hk
      have hae := pch_end hG hch0
      cases hok : (pnum g k (a + 1)).1 with
      | true =>
        rw [hok] at hw0
        rw [hok, if_pos rfl] at he
        exact ih _ _ W' (pnum_end hG (by omega)) f' (n'.trans h13) hw0 ha0 hm0 (hc0 hok) he
      | false =>
        rw [hok] at hw0
        rw [hok, if_neg (by decide)] at he
        have hq := hQ W' f' (fun {p} h1 h2 => by rw [h1, ← he] at h2; cases h2)
        rw [← he] at hq
        exact (bad W' _ hw0 ha0).mpr hq
  -- the loop
  have loop : ∀ n a m f W, n + m = 16 → a ≤ 73 → pF V W t → W t 13 = nI (pch g 0 - 48) → W t 12 = nI 1 → W t 11 = nI a → W t 15 = nI m → pcodes W t m f → ptail g n a m f = pparse g → xX E mX5_reads 65 [some (.ref t)] [] S W Q := by
    intro n
    induction n with
    | zero =>
      intro a m f W hn hs hF h13 hw ha hm hc he
      unfold ptail at he
      by_cases hal : a < gln g
      · rw [if_pos hal, if_neg (by omega)] at he
        exact nocomma W a m f hw ha (by omega) hF hal hm (by omega) (by omega) he
      · rw [if_neg hal] at he
        exact fine W a m f hw ha (by omega) hF hal h13 hm (by omega) hc he
    | succ n ih =>
      intro a m f W hn hs hF h13 hw ha hm hc he
      unfold ptail at he
      by_cases hal : a < gln g
      · rw [if_pos hal] at he
        by_cases h44 : pch g a = 44 ∧ m < 16
        · rw [if_pos h44] at he
          have hal' : ¬ gln g ≤ a := by omega
          have hm16 : ¬ 16 ≤ m := by omega
          have hsW := fun (Q : Option Value → xSh → xV → Prop) => s_sign (E := E) (Q := Q) hR hG hF ha (by omega)
          have hlW := hl W hF
          have h441 := h44.1
          obtain ⟨W1, hW1⟩ : ∃ W1, W1 = xup (xup W t 12 (nI 1)) t 11 (nI (a + 1)) := ⟨_, rfl⟩
          have f1 : pF V W1 t := by rw [hW1]; exact pF_up (pF_up hF (by decide)) (by decide)
          have a1 : W1 t 11 = nI (a + 1) := by rw [hW1, xup_eq]
          have w1 : W1 t 12 = nI 1 := by rw [hW1, xup_ne (by omega), xup_eq]
          have n1 : W1 t 13 = W t 13 := by rw [hW1, xup_ne (by omega), xup_ne (by omega)]
          have m1 : W1 t 15 = nI m := by rw [hW1, xup_ne (by omega), xup_ne (by omega)]; exact hm
          have c1 : W1 (t + 9) = W (t + 9) := by rw [hW1]; funext i; rw [xup_ne (by omega), xup_ne (by omega)]
          have hg72 : gln g ≤ 72 := h72
          obtain ⟨W', hi, hx⟩ := cmd n (a + 1) m f W1 (by omega) (by omega) f1 (n1.trans h13) w1 a1 m1 (fun i hi => by rw [c1]; exact hc i hi) he (fun a f W h1 h2 h3 h4 h5 h6 h7 h8 => ih a (m + 1) f W (by omega) h1 h2 h3 h4 h5 h6 h7 h8)
          simp (disch := (first | assumption | exact xnl_i _ | exact xnl_r _ | exact xnl_n | exact Bool.toNat_lt _ | exact hb _ | exact hb2 _ | omega | exact Nat.le_of_ble_eq_true rfl | rfl | decide)) only [pX5_reads_65, pX5_reads_66, pX5_reads_69, pX5_reads_72, pX5_reads_73, pX5_reads_76, pX5_reads_77, pX5_reads_80, pX5_reads_83, pX5_reads_84, pX5_reads_85, pX5_reads_88, pX5_reads_90, pX5_reads_93, pX5_reads_94, pX5_reads_97, pX5_reads_99, pX5_reads_102, pX5_reads_103, pX5_reads_106, pX5_reads_107, pX5_reads_110, pX5_reads_111, pX5_reads_111i, pX5_reads_112, pX5_reads_115, pX5_reads_116, pX5_reads_119, pX5_reads_122, pX5_reads_123, pX5_reads_126, pX5_reads_127, pX5_reads_128, nI_add, pk_mul, xn_sub, xn_and, xn_or, xn_xor, xn_shl, xn_shr, xn_lt, xn_le, xn_eq, xrf_some, xup_eq, xup_ne, xrow_eq, xrow_ne, Option.toList_some, Option.toList_none, List.singleton_append, List.nil_append, List.cons_append, xnl_n, xnl_i, xnl_r, Nat.zero_add, Nat.add_zero, ↓reduceIte, Nat.reduceEqDiff, Nat.reduceLeDiff, Nat.reduceAdd, Nat.reduceMul, Nat.reduceLT, Nat.one_ne_zero, eq_self, not_true_eq_false, not_false_eq_true, and_self, k0, r1, r2, r3, r5, r6, r7, r9, r10, r14, hw, ha, hlW, hal', hsW, h441, hm, hm16]
          rw [← hW1]
          simp (disch := (first | assumption | exact xnl_i _ | exact xnl_r _ | exact xnl_n | exact Bool.toNat_lt _ | exact hb _ | exact hb2 _ | omega | exact Nat.le_of_ble_eq_true rfl | rfl | decide)) only [pX5_reads_131, pX5_reads_132, pX5_reads_135, pX5_reads_138, pX5_reads_139, pX5_reads_142, nI_add, pk_mul, xn_sub, xn_and, xn_or, xn_xor, xn_shl, xn_shr, xn_lt, xn_le, xn_eq, xrf_some, xup_eq, xup_ne, xrow_eq, xrow_ne, Option.toList_some, Option.toList_none, List.singleton_append, List.nil_append, List.cons_append, xnl_n, xnl_i, xnl_r, Nat.zero_add, Nat.add_zero, ↓reduceIte, Nat.reduceEqDiff, Nat.reduceLeDiff, Nat.reduceAdd, Nat.reduceMul, Nat.reduceLT, Nat.one_ne_zero, eq_self, not_true_eq_false, not_false_eq_true, and_self, k0, r1, r2, r3, r5, r6, r7, r9, r10, r14, w1, hi]
          exact hx
        · rw [if_neg h44] at he
          exact nocomma W a m f hw ha (by omega) hF hal hm (by omega) h44 he
      · rw [if_neg hal] at he
        exact fine W a m f hw ha (by omega) hF hal h13 hm (by omega) hc he
  -- the head
  obtain ⟨W0, hW0⟩ : ∃ W0, W0 = xup (xup (xup V t 11 (nI 0)) t 12 (nI 1)) t 15 (nI 0) := ⟨_, rfl⟩
  have f0 : pF V W0 t := by rw [hW0]; exact pF_up (pF_up (pF_up pF_r (by decide)) (by decide)) (by decide)
  have a0 : W0 t 11 = nI 0 := by rw [hW0, xup_ne (by omega), xup_ne (by omega), xup_eq]
  have w0 : W0 t 12 = nI 1 := by rw [hW0, xup_ne (by omega), xup_eq]
  have m0 : W0 t 15 = nI 0 := by rw [hW0, xup_eq]
  obtain ⟨W1, f1, k1', w1, a1, i1⟩ := s_takesSign (E := E) (lo := 48) (hi := 55) (w := true) hR hG f0 a0 (by decide) w0 (by decide) (by decide)
  have hpe : (if 48 ≤ pch g 0 ∧ pch g 0 ≤ 55 then (if pch g 1 = 58 then (if 2 < gln g then prd g 16 2 0 (fun _ => (0, 0)) else (none, 0, fun _ => (0, 0))) else (some 1, 0, fun _ => (0, 0))) else (some 0, 0, fun _ => (0, 0)) : Option Nat × Nat × (Nat → Nat × Nat)) = pparse g := rfl
  show xX E mX5_reads 0 [some (.ref t)] [] S V Q
  by_cases h : 48 ≤ pch g 0 ∧ pch g 0 ≤ 55
  · have e : pn0 g 48 55 0 = (true, pch g 0 - 48, 1) := by unfold pn0; rw [if_pos h]
    rw [e] at w1 a1
    have hsub : nI (pch g 0) - nI 48 = nI (pch g 0 - 48) := xn_sub h.1
    rw [hsub] at i1
    obtain ⟨W2, hW2⟩ : ∃ W2, W2 = xup W1 t 13 (nI (pch g 0 - 48)) := ⟨_, rfl⟩
    have f2 : pF V W2 t := by rw [hW2]; exact pF_up f1 (by decide)
    have a2 : W2 t 11 = nI 1 := by rw [hW2, xup_ne (by omega)]; exact a1
    have w2 : W2 t 12 = nI 1 := by rw [hW2, xup_ne (by omega)]; exact w1
    have n2 : W2 t 13 = nI (pch g 0 - 48) := by rw [hW2, xup_eq]
    have m2 : W2 t 15 = nI 0 := by rw [hW2, xup_ne (by omega), k1'.2.1]; exact m0
    have hl2 := hl W2 f2
    obtain ⟨W3, f3, k3, w3, a3, i3⟩ := s_takesSign (E := E) (lo := 58) (hi := 58) (w := true) hR hG f2 a2 (by decide) w2 (by decide) (by decide)
    have hl3 := hl W3 f3
    rw [if_pos h] at hpe
    have head : xX E mX5_reads 0 [some (.ref t)] [] S V Q ↔ xX E mX5_reads 43 [some (.ref t)] [] S W3 Q := by
      simp (disch := (first | assumption | exact xnl_i _ | exact xnl_r _ | exact xnl_n | exact Bool.toNat_lt _ | exact hb _ | exact hb2 _ | omega | exact Nat.le_of_ble_eq_true rfl | rfl | decide)) only [pX5_reads_0, pX5_reads_1, pX5_reads_2, pX5_reads_5, pX5_reads_6, pX5_reads_7, pX5_reads_10, pX5_reads_11, pX5_reads_12, pX5_reads_15, pX5_reads_16, pX5_reads_17, pX5_reads_19, nI_add, pk_mul, xn_sub, xn_and, xn_or, xn_xor, xn_shl, xn_shr, xn_lt, xn_le, xn_eq, xrf_some, xup_eq, xup_ne, xrow_eq, xrow_ne, Option.toList_some, Option.toList_none, List.singleton_append, List.nil_append, List.cons_append, xnl_n, xnl_i, xnl_r, Nat.zero_add, Nat.add_zero, ↓reduceIte, Nat.reduceEqDiff, Nat.reduceLeDiff, Nat.reduceAdd, Nat.reduceMul, Nat.reduceLT, Nat.one_ne_zero, eq_self, not_true_eq_false, not_false_eq_true, and_self, k0, r1, r2, r3, r5, r6, r7, r9, r10, r14]
      rw [← hW0]
      simp (disch := (first | assumption | exact xnl_i _ | exact xnl_r _ | exact xnl_n | exact Bool.toNat_lt _ | exact hb _ | exact hb2 _ | omega | exact Nat.le_of_ble_eq_true rfl | rfl | decide)) only [pX5_reads_21, pX5_reads_24, nI_add, pk_mul, xn_sub, xn_and, xn_or, xn_xor, xn_shl, xn_shr, xn_lt, xn_le, xn_eq, xrf_some, xup_eq, xup_ne, xrow_eq, xrow_ne, Option.toList_some, Option.toList_none, List.singleton_append, List.nil_append, List.cons_append, xnl_n, xnl_i, xnl_r, Nat.zero_add, Nat.add_zero, ↓reduceIte, Nat.reduceEqDiff, Nat.reduceLeDiff, Nat.reduceAdd, Nat.reduceMul, Nat.reduceLT, Nat.one_ne_zero, eq_self, not_true_eq_false, not_false_eq_true, and_self, k0, r1, r2, r3, r5, r6, r7, r9, r10, r14, i1]
      rw [← hW2]
      simp (disch := (first | assumption | exact xnl_i _ | exact xnl_r _ | exact xnl_n | exact Bool.toNat_lt _ | exact hb _ | exact hb2 _ | omega | exact Nat.le_of_ble_eq_true rfl | rfl | decide)) only [pX5_reads_27, pX5_reads_28, pX5_reads_31, pX5_reads_34, pX5_reads_35, pX5_reads_37, pX5_reads_39, pX5_reads_42, nI_add, pk_mul, xn_sub, xn_and, xn_or, xn_xor, xn_shl, xn_shr, xn_lt, xn_le, xn_eq, xrf_some, xup_eq, xup_ne, xrow_eq, xrow_ne, Option.toList_some, Option.toList_none, List.singleton_append, List.nil_append, List.cons_append, xnl_n, xnl_i, xnl_r, Nat.zero_add, Nat.add_zero, ↓reduceIte, Nat.reduceEqDiff, Nat.reduceLeDiff, Nat.reduceAdd, Nat.reduceMul, Nat.reduceLT, Nat.one_ne_zero, eq_self, not_true_eq_false, not_false_eq_true, and_self, k0, r1, r2, r3, r5, r6, r7, r9, r10, r14, w2, i3]
    rw [head]
    have h13 : W3 t 13 = nI (pch g 0 - 48) := k3.1.trans n2
    have hm3 : W3 t 15 = nI 0 := k3.2.1.trans m2
    by_cases h1 : pch g 1 = 58
    · have e1 : pn0 g 58 58 1 = (true, pch g 1 - 58, 2) := by unfold pn0; rw [if_pos (by omega)]
      rw [e1] at w3 a3
      have w3 : W3 t 12 = nI 1 := w3
      have a3 : W3 t 11 = nI 2 := a3
      rw [if_pos h1] at hpe
      by_cases h2 : 2 < gln g
      · have h2' : ¬ gln g ≤ 2 := by omega
        rw [if_pos h2] at hpe
        obtain ⟨W', hi, hx⟩ := cmd 15 2 0 _ W3 (by decide) (by decide) f3 h13 w3 a3 hm3 (fun i hi => absurd hi (Nat.not_lt_zero i)) hpe (fun a f W h1 h2 h3 h4 h5 h6 h7 h8 => loop 15 a 1 f W (by decide) h1 h2 h3 h4 h5 h6 h7 h8)
        simp (disch := (first | assumption | exact xnl_i _ | exact xnl_r _ | exact xnl_n | exact Bool.toNat_lt _ | exact hb _ | exact hb2 _ | omega | exact Nat.le_of_ble_eq_true rfl | rfl | decide)) only [pX5_reads_43, pX5_reads_44, pX5_reads_47, pX5_reads_50, pX5_reads_51, pX5_reads_54, pX5_reads_55, pX5_reads_58, pX5_reads_61, pX5_reads_62, nI_add, pk_mul, xn_sub, xn_and, xn_or, xn_xor, xn_shl, xn_shr, xn_lt, xn_le, xn_eq, xrf_some, xup_eq, xup_ne, xrow_eq, xrow_ne, Option.toList_some, Option.toList_none, List.singleton_append, List.nil_append, List.cons_append, xnl_n, xnl_i, xnl_r, Nat.zero_add, Nat.add_zero, ↓reduceIte, Nat.reduceEqDiff, Nat.reduceLeDiff, Nat.reduceAdd, Nat.reduceMul, Nat.reduceLT, Nat.one_ne_zero, eq_self, not_true_eq_false, not_false_eq_true, and_self, k0, r1, r2, r3, r5, r6, r7, r9, r10, r14, w3, a3, hl3, h2', hi]
        exact hx
      · have h2' : gln g ≤ 2 := by omega
        rw [if_neg h2] at hpe
        simp (disch := (first | assumption | exact xnl_i _ | exact xnl_r _ | exact xnl_n | exact Bool.toNat_lt _ | exact hb _ | exact hb2 _ | omega | exact Nat.le_of_ble_eq_true rfl | rfl | decide)) only [pX5_reads_43, pX5_reads_44, pX5_reads_47, pX5_reads_50, pX5_reads_51, pX5_reads_54, pX5_reads_55, pX5_reads_58, pX5_reads_61, pX5_reads_62, nI_add, pk_mul, xn_sub, xn_and, xn_or, xn_xor, xn_shl, xn_shr, xn_lt, xn_le, xn_eq, xrf_some, xup_eq, xup_ne, xrow_eq, xrow_ne, Option.toList_some, Option.toList_none, List.singleton_append, List.nil_append, List.cons_append, xnl_n, xnl_i, xnl_r, Nat.zero_add, Nat.add_zero, ↓reduceIte, Nat.reduceEqDiff, Nat.reduceLeDiff, Nat.reduceAdd, Nat.reduceMul, Nat.reduceLT, Nat.one_ne_zero, eq_self, not_true_eq_false, not_false_eq_true, and_self, k0, r1, r2, r3, r5, r6, r7, r9, r10, r14, w3, a3, hl3, h2']
        exact fine W3 2 0 _ w3 a3 (by decide) f3 h2 h13 hm3 (by decide) (fun i hi => absurd hi (Nat.not_lt_zero i)) hpe
    · have e1 : pn0 g 58 58 1 = (false, 0, 1) := by unfold pn0; rw [if_neg (by omega)]
      rw [e1] at w3 a3
      have w3 : W3 t 12 = nI 0 := w3
      have a3 : W3 t 11 = nI 1 := a3
      rw [if_neg h1] at hpe
      have hq := hQ W3 f3 (fun {p} h1 h2 => by rw [h1, ← hpe] at h2; cases h2)
      rw [← hpe] at hq
      simp (disch := (first | assumption | exact xnl_i _ | exact xnl_r _ | exact xnl_n | exact Bool.toNat_lt _ | exact hb _ | exact hb2 _ | omega | exact Nat.le_of_ble_eq_true rfl | rfl | decide)) only [pX5_reads_43, pX5_reads_44, pX5_reads_47, pX5_reads_50, pX5_reads_51, pX5_reads_54, pX5_reads_55, pX5_reads_58, pX5_reads_61, pX5_reads_62, nI_add, pk_mul, xn_sub, xn_and, xn_or, xn_xor, xn_shl, xn_shr, xn_lt, xn_le, xn_eq, xrf_some, xup_eq, xup_ne, xrow_eq, xrow_ne, Option.toList_some, Option.toList_none, List.singleton_append, List.nil_append, List.cons_append, xnl_n, xnl_i, xnl_r, Nat.zero_add, Nat.add_zero, ↓reduceIte, Nat.reduceEqDiff, Nat.reduceLeDiff, Nat.reduceAdd, Nat.reduceMul, Nat.reduceLT, Nat.one_ne_zero, eq_self, not_true_eq_false, not_false_eq_true, and_self, k0, r1, r2, r3, r5, r6, r7, r9, r10, r14, w3]
      exact (bad W3 1 w3 a3).mpr hq
  · have e : pn0 g 48 55 0 = (false, 0, 0) := by unfold pn0; rw [if_neg h]
    rw [e] at w1 a1
    rw [if_neg h] at hpe
    obtain ⟨W2, hW2⟩ : ∃ W2, W2 = xup W1 t 13 (nI (pch g 0) - nI 48) := ⟨_, rfl⟩
    have f2 : pF V W2 t := by rw [hW2]; exact pF_up f1 (by decide)
    have a2 : W2 t 11 = nI 0 := by rw [hW2, xup_ne (by omega)]; exact a1
    have w2 : W2 t 12 = nI 0 := by rw [hW2, xup_ne (by omega)]; exact w1
    have hq := hQ W2 f2 (fun {p} h1 h2 => by rw [h1, ← hpe] at h2; cases h2)
    rw [← hpe] at hq
    have head : xX E mX5_reads 0 [some (.ref t)] [] S V Q ↔ xX E mX5_reads 65 [some (.ref t)] [] S W2 Q := by
      simp (disch := (first | assumption | exact xnl_i _ | exact xnl_r _ | exact xnl_n | exact Bool.toNat_lt _ | exact hb _ | exact hb2 _ | omega | exact Nat.le_of_ble_eq_true rfl | rfl | decide)) only [pX5_reads_0, pX5_reads_1, pX5_reads_2, pX5_reads_5, pX5_reads_6, pX5_reads_7, pX5_reads_10, pX5_reads_11, pX5_reads_12, pX5_reads_15, pX5_reads_16, pX5_reads_17, pX5_reads_19, nI_add, pk_mul, xn_sub, xn_and, xn_or, xn_xor, xn_shl, xn_shr, xn_lt, xn_le, xn_eq, xrf_some, xup_eq, xup_ne, xrow_eq, xrow_ne, Option.toList_some, Option.toList_none, List.singleton_append, List.nil_append, List.cons_append, xnl_n, xnl_i, xnl_r, Nat.zero_add, Nat.add_zero, ↓reduceIte, Nat.reduceEqDiff, Nat.reduceLeDiff, Nat.reduceAdd, Nat.reduceMul, Nat.reduceLT, Nat.one_ne_zero, eq_self, not_true_eq_false, not_false_eq_true, and_self, k0, r1, r2, r3, r5, r6, r7, r9, r10, r14]
      rw [← hW0]
      simp (disch := (first | assumption | exact xnl_i _ | exact xnl_r _ | exact xnl_n | exact Bool.toNat_lt _ | exact hb _ | exact hb2 _ | omega | exact Nat.le_of_ble_eq_true rfl | rfl | decide)) only [pX5_reads_21, pX5_reads_24, nI_add, pk_mul, xn_and, xn_or, xn_xor, xn_shl, xn_shr, xn_lt, xn_le, xn_eq, xrf_some, xup_eq, xup_ne, xrow_eq, xrow_ne, Option.toList_some, Option.toList_none, List.singleton_append, List.nil_append, List.cons_append, xnl_n, xnl_i, xnl_r, Nat.zero_add, Nat.add_zero, ↓reduceIte, Nat.reduceEqDiff, Nat.reduceLeDiff, Nat.reduceAdd, Nat.reduceMul, Nat.reduceLT, Nat.one_ne_zero, eq_self, not_true_eq_false, not_false_eq_true, and_self, k0, r1, r2, r3, r5, r6, r7, r9, r10, r14, i1]
      rw [← hW2]
      simp (disch := (first | assumption | exact xnl_i _ | exact xnl_r _ | exact xnl_n | exact Bool.toNat_lt _ | exact hb _ | exact hb2 _ | omega | exact Nat.le_of_ble_eq_true rfl | rfl | decide)) only [pX5_reads_27, pX5_reads_28, pX5_reads_31, pX5_reads_34, pX5_reads_35, pX5_reads_37, pX5_reads_39, pX5_reads_42, pX5_reads_43, pX5_reads_44, pX5_reads_47, pX5_reads_50, pX5_reads_51, pX5_reads_54, pX5_reads_55, pX5_reads_58, pX5_reads_61, pX5_reads_62, nI_add, pk_mul, xn_sub, xn_and, xn_or, xn_xor, xn_shl, xn_shr, xn_lt, xn_le, xn_eq, xrf_some, xup_eq, xup_ne, xrow_eq, xrow_ne, Option.toList_some, Option.toList_none, List.singleton_append, List.nil_append, List.cons_append, xnl_n, xnl_i, xnl_r, Nat.zero_add, Nat.add_zero, ↓reduceIte, Nat.reduceEqDiff, Nat.reduceLeDiff, Nat.reduceAdd, Nat.reduceMul, Nat.reduceLT, Nat.one_ne_zero, eq_self, not_true_eq_false, not_false_eq_true, and_self, k0, r1, r2, r3, r5, r6, r7, r9, r10, r14, w2]
    rw [head]
    exact (bad W2 0 w2 a2).mpr hq
end MRS
