/-! ===== the class: numbers and commands in a text ===== -/
def klo (k : Nat) : Nat := if k = 6 then 1 else 0
def khi (k : Nat) : Nat := if k = 0 then 99 else if k = 1 then 7 else if k = 2 then 0 else if k = 3 then 3 else if k = 4 then 3 else if k = 5 then 99 else 15
/-- a number as the class takes it: taken, which, where it goes on -/
def ktn (g : pG) (lo hi a : Nat) : Bool × Nat × Nat :=
  if pdig g a = 10 ∨ pdig g a < lo ∨ hi < pdig g a then (false, 0, a)
  else if ¬ pdig g a = 0 ∧ ¬ pdig g (a + 1) = 10 ∧ 10 * pdig g a + pdig g (a + 1) ≤ hi then (true, 10 * pdig g a + pdig g (a + 1), a + 2)
  else (true, pdig g a, a + 1)
def knum (g : pG) (k a : Nat) : Bool × Nat × Nat := if k = 2 then (true, 0, a) else ktn g (klo k) (khi k) a
theorem pdig_le (g : pG) (a : Nat) : pdig g a ≤ 10 := by unfold pdig; split <;> omega
theorem pdig_10 {g : pG} {a : Nat} : pdig g a = 10 ↔ ¬ (48 ≤ pch g a ∧ pch g a ≤ 57) := by
  unfold pdig; split
  · rename_i h; constructor
    · intro z; omega
    · intro z; exact absurd h z
  · rename_i h; exact ⟨fun _ => h, fun _ => rfl⟩
theorem pdig_n {g : pG} {a : Nat} (h : 48 ≤ pch g a ∧ pch g a ≤ 57) : pdig g a = pch g a - 48 := if_pos h
theorem knum_pnum {g : pG} {k a : Nat} (hk : k ≤ 6) : pnum g k a = knum g k a ∨ (pnum g k a = (false, 0, a + 1) ∧ (knum g k a).1 = true ∧ (knum g k a).2.2 = a + 1 ∧ 48 ≤ pch g (a + 1) ∧ pch g (a + 1) ≤ 57) ∨ ((pnum g k a).1 = false ∧ (knum g k a).1 = false ∧ (pnum g k a).2.2 = (knum g k a).2.2) := by
  have hcase : k = 0 ∨ k = 1 ∨ k = 2 ∨ k = 3 ∨ k = 4 ∨ k = 5 ∨ k = 6 := by omega
  have one : ∀ hi, hi ≤ 9 → pn0 g 48 (48 + hi) a = ktn g 0 hi a := by
    intro hi hh
    unfold pn0 ktn
    by_cases h : 48 ≤ pch g a ∧ pch g a ≤ 57
    · rw [pdig_n h]
      by_cases h2 : pch g a ≤ 48 + hi
      · rw [if_pos ⟨h.1, h2⟩, if_neg (by omega)]
        by_cases h3 : ¬ pch g a - 48 = 0 ∧ ¬ pdig g (a + 1) = 10 ∧ 10 * (pch g a - 48) + pdig g (a + 1) ≤ hi
        · omega
        · rw [if_neg h3]
      · rw [if_neg (by omega), if_pos (by omega)]
    · have h10 := pdig_10.mpr h
      rw [if_neg (by omega), if_pos (Or.inl h10)]
  have two : pn2 g a = ktn g 0 99 a := by
    unfold pn2 ktn
    by_cases h : 48 ≤ pch g a ∧ pch g a ≤ 57
    · rw [if_pos h, pdig_n h, if_neg (show ¬ (pch g a - 48 = 10 ∨ pch g a - 48 < 0 ∨ 99 < pch g a - 48) by omega)]
      by_cases h2 : 48 ≤ pch g (a + 1) ∧ pch g (a + 1) ≤ 57
      · rw [pdig_n h2]
        by_cases h3 : 0 < pch g a - 48
        · rw [if_pos ⟨h3, h2⟩, if_pos (by omega)]
        · rw [if_neg (fun z => h3 z.1), if_neg (by omega)]
      · rw [if_neg (fun z => h2 z.2), if_neg (fun z => z.2.1 (pdig_10.mpr h2))]
    · have h10 := pdig_10.mpr h
      rw [if_neg h, if_pos (Or.inl h10)]
  rcases hcase with rfl | rfl | rfl | rfl | rfl | rfl | rfl
  · left; exact two
  · left; exact one 7 (by decide)
  · left; rfl
  · left; exact one 3 (by decide)
  · left; exact one 3 (by decide)
  · left; exact two
  · show pnb g a = ktn g 1 15 a ∨ (pnb g a = (false, 0, a + 1) ∧ (ktn g 1 15 a).1 = true ∧ (ktn g 1 15 a).2.2 = a + 1 ∧ 48 ≤ pch g (a + 1) ∧ pch g (a + 1) ≤ 57) ∨ ((pnb g a).1 = false ∧ (ktn g 1 15 a).1 = false ∧ (pnb g a).2.2 = (ktn g 1 15 a).2.2)
    unfold pnb ktn
    by_cases h : 48 ≤ pch g a ∧ pch g a ≤ 57
    · rw [pdig_n h]
      by_cases h49 : 49 ≤ pch g a
      · rw [if_pos ⟨h49, h.2⟩, if_neg (show ¬ (pch g a - 48 = 10 ∨ pch g a - 48 < 1 ∨ 15 < pch g a - 48) by omega)]
        by_cases h2 : 48 ≤ pch g (a + 1) ∧ pch g (a + 1) ≤ 57
        · rw [if_pos h2, pdig_n h2]
          by_cases h3 : pch g a = 49 ∧ pch g (a + 1) ≤ 53
          · left
            rw [if_pos h3, if_pos (by omega), h3.1]
          · right; left
            rw [if_neg h3, if_neg (by omega)]
            exact ⟨rfl, rfl, rfl, h2.1, h2.2⟩
        · left
          rw [if_neg h2, if_neg (fun z => z.2.1 (pdig_10.mpr h2))]
      · left
        rw [if_neg (by omega), if_pos (by omega)]
    · left
      have h10 := pdig_10.mpr h
      rw [if_neg (by omega), if_pos (Or.inl h10)]
section KT2
variable {E : Nat × Nat × Nat} {S : xSh} {V V' W : xV} {Q : Option Value → xSh → xV → Prop} {x a : Nat} {g : pG} {σ : Nat → Nat}
theorem k_takeNumber {lo hi m : Nat} (hT : tsShape S x) (hd : dRep V x g) (hF : qF V W x) (hG : gG g) (ha : W (x + 357) 6 = nI a) (hs : a ≤ 73) (hlo : lo ≤ 100) (hhi : hi ≤ 100) (hm : W (x + 357) 5 = nI m) (hm16 : m < 16) : ∃ W', qF V W' x ∧ W' (x + 357) 6 = nI (ktn g lo hi a).2.2 ∧ (∀ j, ¬ j = 6 → W' (x + 357) j = W (x + 357) j) ∧ W' (x + 359) = W (x + 359) ∧ (∀ j, ¬ j = m → W' (x + 360) j = W (x + 360) j) ∧ ((ktn g lo hi a).1 = true → W' (x + 360) m = nI (ktn g lo hi a).2.1) ∧ ∀ Q : Option Value → xSh → xV → Prop, xC E mX3_takeNumber [.ref (x + 357), .int (nI lo), .int (nI hi)] S W Q ↔ Q (some (.int (nI (ktn g lo hi a).1.toNat))) S W' := by
  have hdg := fun (Q : Option Value → xSh → xV → Prop) => k_digitHere (E := E) (Q := Q) hT hd hF hG ha (by omega)
  have f1 : qF V (xup W (x + 357) 6 (nI (a + 1))) x := qF_up hF (by decide)
  have hdg2 := fun (Q : Option Value → xSh → xV → Prop) => k_digitHere (E := E) (Q := Q) hT hd f1 hG xup_eq (by omega)
  have hT0 := hT
  obtain ⟨tk0, tr0, tr1, tr2, tr3, tr4, tr5, tnow, ttry, hk0, hr0, hk1, hn1, hms, sk0, sn0, sms, ik0, in0, pk0, pr0, pr2, pr3, qk1, qn1, qk2, qn2, qk3, qn3⟩ := hT
  have p1 := pdig_le g a
  have p2 := pdig_le g (a + 1)
  have hb2 : ∀ i, pdig g i < 2147483648 := fun i => Nat.lt_of_le_of_lt (pdig_le g i) (by decide)
  have hm5 : xup W (x + 357) 6 (nI (a + 1)) (x + 357) 5 = nI m := by rw [xup_ne (by omega)]; exact hm
  unfold ktn
  by_cases h : pdig g a = 10 ∨ pdig g a < lo ∨ hi < pdig g a
  · rw [if_pos h]
    refine ⟨W, hF, ha, fun _ _ => rfl, rfl, fun _ _ => rfl, fun z => Bool.noConfusion (show false = true from z), fun Q => ?_⟩
    show xX E mX3_takeNumber 0 [some (.ref (x + 357)), some (.int (nI lo)), some (.int (nI hi)), none, none] [] S W Q ↔ _
    by_cases h1 : pdig g a = 10
    · simp (disch := (first | assumption | exact xnl_i _ | exact xnl_r _ | exact xnl_n | exact Bool.toNat_lt _ | exact hb _ | exact hb2 _ | omega | exact Nat.le_of_ble_eq_true rfl | rfl | decide)) only [pX3_takeNumber_0, pX3_takeNumber_1, pX3_takeNumber_4, pX3_takeNumber_5, pX3_takeNumber_6, pX3_takeNumber_8, pX3_takeNumber_11, pX3_takeNumber_12, pX3_takeNumber_13, pX3_takeNumber_16, pX3_takeNumber_17, pX3_takeNumber_18, pX3_takeNumber_21, pX3_takeNumber_22, nI_add, pk_mul, xn_sub, xn_and, xn_or, xn_xor, xn_shl, xn_shr, xn_lt, xn_le, xn_eq, xrf_some, xup_eq, xup_ne, xrow_eq, xrow_ne, Option.toList_some, Option.toList_none, List.singleton_append, List.nil_append, List.cons_append, xnl_n, xnl_i, xnl_r, Nat.zero_add, Nat.add_zero, ↓reduceIte, Nat.reduceEqDiff, Nat.reduceLeDiff, Nat.reduceAdd, Nat.reduceMul, Nat.reduceLT, Nat.one_ne_zero, eq_self, not_true_eq_false, not_false_eq_true, and_self, pk0, pr0, pr2, pr3, hdg, h1, Bool.toNat_false]
    · by_cases h2 : pdig g a < lo
      · simp (disch := (first | assumption | exact xnl_i _ | exact xnl_r _ | exact xnl_n | exact Bool.toNat_lt _ | exact hb _ | exact hb2 _ | omega | exact Nat.le_of_ble_eq_true rfl | rfl | decide)) only [pX3_takeNumber_0, pX3_takeNumber_1, pX3_takeNumber_4, pX3_takeNumber_5, pX3_takeNumber_6, pX3_takeNumber_8, pX3_takeNumber_11, pX3_takeNumber_12, pX3_takeNumber_13, pX3_takeNumber_16, pX3_takeNumber_17, pX3_takeNumber_18, pX3_takeNumber_21, pX3_takeNumber_22, nI_add, pk_mul, xn_sub, xn_and, xn_or, xn_xor, xn_shl, xn_shr, xn_lt, xn_le, xn_eq, xrf_some, xup_eq, xup_ne, xrow_eq, xrow_ne, Option.toList_some, Option.toList_none, List.singleton_append, List.nil_append, List.cons_append, xnl_n, xnl_i, xnl_r, Nat.zero_add, Nat.add_zero, ↓reduceIte, Nat.reduceEqDiff, Nat.reduceLeDiff, Nat.reduceAdd, Nat.reduceMul, Nat.reduceLT, Nat.one_ne_zero, eq_self, not_true_eq_false, not_false_eq_true, and_self, pk0, pr0, pr2, pr3, hdg, h1, h2, Bool.toNat_false]
      · have h3 : ¬ pdig g a ≤ hi := by omega
        simp (disch := (first | assumption | exact xnl_i _ | exact xnl_r _ | exact xnl_n | exact Bool.toNat_lt _ | exact hb _ | exact hb2 _ | omega | exact Nat.le_of_ble_eq_true rfl | rfl | decide)) only [pX3_takeNumber_0, pX3_takeNumber_1, pX3_takeNumber_4, pX3_takeNumber_5, pX3_takeNumber_6, pX3_takeNumber_8, pX3_takeNumber_11, pX3_takeNumber_12, pX3_takeNumber_13, pX3_takeNumber_16, pX3_takeNumber_17, pX3_takeNumber_18, pX3_takeNumber_21, pX3_takeNumber_22, nI_add, pk_mul, xn_sub, xn_and, xn_or, xn_xor, xn_shl, xn_shr, xn_lt, xn_le, xn_eq, xrf_some, xup_eq, xup_ne, xrow_eq, xrow_ne, Option.toList_some, Option.toList_none, List.singleton_append, List.nil_append, List.cons_append, xnl_n, xnl_i, xnl_r, Nat.zero_add, Nat.add_zero, ↓reduceIte, Nat.reduceEqDiff, Nat.reduceLeDiff, Nat.reduceAdd, Nat.reduceMul, Nat.reduceLT, Nat.one_ne_zero, eq_self, not_true_eq_false, not_false_eq_true, and_self, pk0, pr0, pr2, pr3, hdg, h1, h2, h3, Bool.toNat_false]
  · rw [if_neg h]
    have h1 : ¬ pdig g a = 10 := fun z => h (Or.inl z)
    have h2 : ¬ pdig g a < lo := fun z => h (Or.inr (Or.inl z))
    have h3 : pdig g a ≤ hi := by omega
    by_cases hc : ¬ pdig g a = 0 ∧ ¬ pdig g (a + 1) = 10 ∧ 10 * pdig g a + pdig g (a + 1) ≤ hi
    · obtain ⟨q1, q2, q3⟩ := hc
      have q3' : ¬ hi < 10 * pdig g a + pdig g (a + 1) := by omega
      rw [if_pos ⟨q1, q2, q3⟩]
      have hm6 : xup (xup W (x + 357) 6 (nI (a + 1))) (x + 357) 6 (nI (a + 1 + 1)) (x + 357) 5 = nI m := by rw [xup_ne (by omega)]; exact hm5
      refine ⟨xup (xup (xup W (x + 357) 6 (nI (a + 1))) (x + 357) 6 (nI (a + 1 + 1))) (x + 360) m (nI (10 * pdig g a + pdig g (a + 1))), qF_row (qF_up f1 (by decide)) (Or.inr rfl), by rw [xup_ne (by omega), xup_eq], fun j hj => by rw [xup_ne (by omega), xup_ne (by omega), xup_ne (by omega)], by rw [xup_rn (by omega), xup_rn (by omega), xup_rn (by omega)], fun j hj => by rw [xup_ne (by omega), xup_ne (by omega), xup_ne (by omega)], fun _ => xup_eq, fun Q => ?_⟩
      show xX E mX3_takeNumber 0 [some (.ref (x + 357)), some (.int (nI lo)), some (.int (nI hi)), none, none] [] S W Q ↔ _
      simp (disch := (first | assumption | exact xnl_i _ | exact xnl_r _ | exact xnl_n | exact Bool.toNat_lt _ | exact hb _ | exact hb2 _ | omega | exact Nat.le_of_ble_eq_true rfl | rfl | decide)) only [pX3_takeNumber_0, pX3_takeNumber_1, pX3_takeNumber_4, pX3_takeNumber_5, pX3_takeNumber_6, pX3_takeNumber_8, pX3_takeNumber_11, pX3_takeNumber_12, pX3_takeNumber_13, pX3_takeNumber_16, pX3_takeNumber_17, pX3_takeNumber_18, pX3_takeNumber_21, pX3_takeNumber_22, pX3_takeNumber_23, pX3_takeNumber_24, pX3_takeNumber_24i, pX3_takeNumber_25, pX3_takeNumber_28, pX3_takeNumber_29, pX3_takeNumber_30, pX3_takeNumber_33, pX3_takeNumber_34, pX3_takeNumber_37, pX3_takeNumber_39, pX3_takeNumber_40, pX3_takeNumber_43, pX3_takeNumber_45, pX3_takeNumber_47, pX3_takeNumber_50, pX3_takeNumber_52, pX3_takeNumber_53, pX3_takeNumber_54, pX3_takeNumber_56, pX3_takeNumber_57, pX3_takeNumber_58, pX3_takeNumber_61, pX3_takeNumber_63, pX3_takeNumber_64, pX3_takeNumber_65, pX3_takeNumber_67, pX3_takeNumber_68, pX3_takeNumber_69, pX3_takeNumber_70, pX3_takeNumber_70i, pX3_takeNumber_71, pX3_takeNumber_74, pX3_takeNumber_75, pX3_takeNumber_76, pX3_takeNumber_79, pX3_takeNumber_80, pX3_takeNumber_83, pX3_takeNumber_84, pX3_takeNumber_87, pX3_takeNumber_88, pX3_takeNumber_89, pX3_takeNumber_90, nI_add, pk_mul, xn_sub, xn_and, xn_or, xn_xor, xn_shl, xn_shr, xn_lt, xn_le, xn_eq, xrf_some, xup_eq, xup_ne, xrow_eq, xrow_ne, Option.toList_some, Option.toList_none, List.singleton_append, List.nil_append, List.cons_append, xnl_n, xnl_i, xnl_r, Nat.zero_add, Nat.add_zero, ↓reduceIte, Nat.reduceEqDiff, Nat.reduceLeDiff, Nat.reduceAdd, Nat.reduceMul, Nat.reduceLT, Nat.one_ne_zero, eq_self, not_true_eq_false, not_false_eq_true, and_self, pk0, pr0, pr2, pr3, hdg, h1, h2, h3, ha, hdg2, q1, q2, q3', q3, hm, hm5, hm6, Bool.toNat_true]
    · rw [if_neg hc]
      refine ⟨xup (xup W (x + 357) 6 (nI (a + 1))) (x + 360) m (nI (pdig g a)), qF_row f1 (Or.inr rfl), by rw [xup_ne (by omega), xup_eq], fun j hj => by rw [xup_ne (by omega), xup_ne (by omega)], by rw [xup_rn (by omega), xup_rn (by omega)], fun j hj => by rw [xup_ne (by omega), xup_ne (by omega)], fun _ => xup_eq, fun Q => ?_⟩
      show xX E mX3_takeNumber 0 [some (.ref (x + 357)), some (.int (nI lo)), some (.int (nI hi)), none, none] [] S W Q ↔ _
      by_cases q1 : pdig g a = 0
      · have h2z : ¬ 0 < lo := by omega
        simp (disch := (first | assumption | exact xnl_i _ | exact xnl_r _ | exact xnl_n | exact Bool.toNat_lt _ | exact hb _ | exact hb2 _ | omega | exact Nat.le_of_ble_eq_true rfl | rfl | decide)) only [pX3_takeNumber_0, pX3_takeNumber_1, pX3_takeNumber_4, pX3_takeNumber_5, pX3_takeNumber_6, pX3_takeNumber_8, pX3_takeNumber_11, pX3_takeNumber_12, pX3_takeNumber_13, pX3_takeNumber_16, pX3_takeNumber_17, pX3_takeNumber_18, pX3_takeNumber_21, pX3_takeNumber_22, pX3_takeNumber_23, pX3_takeNumber_24, pX3_takeNumber_24i, pX3_takeNumber_25, pX3_takeNumber_28, pX3_takeNumber_29, pX3_takeNumber_30, pX3_takeNumber_33, pX3_takeNumber_34, pX3_takeNumber_37, pX3_takeNumber_39, pX3_takeNumber_40, pX3_takeNumber_43, pX3_takeNumber_45, pX3_takeNumber_47, pX3_takeNumber_50, pX3_takeNumber_52, pX3_takeNumber_53, pX3_takeNumber_54, pX3_takeNumber_56, pX3_takeNumber_57, pX3_takeNumber_58, pX3_takeNumber_61, pX3_takeNumber_63, pX3_takeNumber_64, pX3_takeNumber_65, pX3_takeNumber_67, pX3_takeNumber_68, pX3_takeNumber_69, pX3_takeNumber_70, pX3_takeNumber_70i, pX3_takeNumber_71, pX3_takeNumber_74, pX3_takeNumber_75, pX3_takeNumber_76, pX3_takeNumber_79, pX3_takeNumber_80, pX3_takeNumber_83, pX3_takeNumber_84, pX3_takeNumber_87, pX3_takeNumber_88, pX3_takeNumber_89, pX3_takeNumber_90, nI_add, pk_mul, xn_sub, xn_and, xn_or, xn_xor, xn_shl, xn_shr, xn_lt, xn_le, xn_eq, xrf_some, xup_eq, xup_ne, xrow_eq, xrow_ne, Option.toList_some, Option.toList_none, List.singleton_append, List.nil_append, List.cons_append, xnl_n, xnl_i, xnl_r, Nat.zero_add, Nat.add_zero, ↓reduceIte, Nat.reduceEqDiff, Nat.reduceLeDiff, Nat.reduceAdd, Nat.reduceMul, Nat.reduceLT, Nat.one_ne_zero, eq_self, not_true_eq_false, not_false_eq_true, and_self, pk0, pr0, pr2, pr3, hdg, h1, h2, h3, ha, hdg2, q1, hm, hm5, Bool.toNat_true, h2z, Nat.zero_le]
      · by_cases q2 : pdig g (a + 1) = 10
        · simp (disch := (first | assumption | exact xnl_i _ | exact xnl_r _ | exact xnl_n | exact Bool.toNat_lt _ | exact hb _ | exact hb2 _ | omega | exact Nat.le_of_ble_eq_true rfl | rfl | decide)) only [pX3_takeNumber_0, pX3_takeNumber_1, pX3_takeNumber_4, pX3_takeNumber_5, pX3_takeNumber_6, pX3_takeNumber_8, pX3_takeNumber_11, pX3_takeNumber_12, pX3_takeNumber_13, pX3_takeNumber_16, pX3_takeNumber_17, pX3_takeNumber_18, pX3_takeNumber_21, pX3_takeNumber_22, pX3_takeNumber_23, pX3_takeNumber_24, pX3_takeNumber_24i, pX3_takeNumber_25, pX3_takeNumber_28, pX3_takeNumber_29, pX3_takeNumber_30, pX3_takeNumber_33, pX3_takeNumber_34, pX3_takeNumber_37, pX3_takeNumber_39, pX3_takeNumber_40, pX3_takeNumber_43, pX3_takeNumber_45, pX3_takeNumber_47, pX3_takeNumber_50, pX3_takeNumber_52, pX3_takeNumber_53, pX3_takeNumber_54, pX3_takeNumber_56, pX3_takeNumber_57, pX3_takeNumber_58, pX3_takeNumber_61, pX3_takeNumber_63, pX3_takeNumber_64, pX3_takeNumber_65, pX3_takeNumber_67, pX3_takeNumber_68, pX3_takeNumber_69, pX3_takeNumber_70, pX3_takeNumber_70i, pX3_takeNumber_71, pX3_takeNumber_74, pX3_takeNumber_75, pX3_takeNumber_76, pX3_takeNumber_79, pX3_takeNumber_80, pX3_takeNumber_83, pX3_takeNumber_84, pX3_takeNumber_87, pX3_takeNumber_88, pX3_takeNumber_89, pX3_takeNumber_90, nI_add, pk_mul, xn_sub, xn_and, xn_or, xn_xor, xn_shl, xn_shr, xn_lt, xn_le, xn_eq, xrf_some, xup_eq, xup_ne, xrow_eq, xrow_ne, Option.toList_some, Option.toList_none, List.singleton_append, List.nil_append, List.cons_append, xnl_n, xnl_i, xnl_r, Nat.zero_add, Nat.add_zero, ↓reduceIte, Nat.reduceEqDiff, Nat.reduceLeDiff, Nat.reduceAdd, Nat.reduceMul, Nat.reduceLT, Nat.one_ne_zero, eq_self, not_true_eq_false, not_false_eq_true, and_self, pk0, pr0, pr2, pr3, hdg, h1, h2, h3, ha, hdg2, q1, q2, hm, hm5, Bool.toNat_true]
        · have q3 : ¬ 10 * pdig g a + pdig g (a + 1) ≤ hi := fun z => hc ⟨q1, q2, z⟩
          have q3' : hi < 10 * pdig g a + pdig g (a + 1) := by omega
          simp (disch := (first | assumption | exact xnl_i _ | exact xnl_r _ | exact xnl_n | exact Bool.toNat_lt _ | exact hb _ | exact hb2 _ | omega | exact Nat.le_of_ble_eq_true rfl | rfl | decide)) only [pX3_takeNumber_0, pX3_takeNumber_1, pX3_takeNumber_4, pX3_takeNumber_5, pX3_takeNumber_6, pX3_takeNumber_8, pX3_takeNumber_11, pX3_takeNumber_12, pX3_takeNumber_13, pX3_takeNumber_16, pX3_takeNumber_17, pX3_takeNumber_18, pX3_takeNumber_21, pX3_takeNumber_22, pX3_takeNumber_23, pX3_takeNumber_24, pX3_takeNumber_24i, pX3_takeNumber_25, pX3_takeNumber_28, pX3_takeNumber_29, pX3_takeNumber_30, pX3_takeNumber_33, pX3_takeNumber_34, pX3_takeNumber_37, pX3_takeNumber_39, pX3_takeNumber_40, pX3_takeNumber_43, pX3_takeNumber_45, pX3_takeNumber_47, pX3_takeNumber_50, pX3_takeNumber_52, pX3_takeNumber_53, pX3_takeNumber_54, pX3_takeNumber_56, pX3_takeNumber_57, pX3_takeNumber_58, pX3_takeNumber_61, pX3_takeNumber_63, pX3_takeNumber_64, pX3_takeNumber_65, pX3_takeNumber_67, pX3_takeNumber_68, pX3_takeNumber_69, pX3_takeNumber_70, pX3_takeNumber_70i, pX3_takeNumber_71, pX3_takeNumber_74, pX3_takeNumber_75, pX3_takeNumber_76, pX3_takeNumber_79, pX3_takeNumber_80, pX3_takeNumber_83, pX3_takeNumber_84, pX3_takeNumber_87, pX3_takeNumber_88, pX3_takeNumber_89, pX3_takeNumber_90, nI_add, pk_mul, xn_sub, xn_and, xn_or, xn_xor, xn_shl, xn_shr, xn_lt, xn_le, xn_eq, xrf_some, xup_eq, xup_ne, xrow_eq, xrow_ne, Option.toList_some, Option.toList_none, List.singleton_append, List.nil_append, List.cons_append, xnl_n, xnl_i, xnl_r, Nat.zero_add, Nat.add_zero, ↓reduceIte, Nat.reduceEqDiff, Nat.reduceLeDiff, Nat.reduceAdd, Nat.reduceMul, Nat.reduceLT, Nat.one_ne_zero, eq_self, not_true_eq_false, not_false_eq_true, and_self, pk0, pr0, pr2, pr3, hdg, h1, h2, h3, ha, hdg2, q1, q2, q3, q3', hm, hm5, Bool.toNat_true]
theorem k_takeCommand {m : Nat} (hT : tsShape S x) (hd : dRep V x g) (hO : oRep E S V x) (hE : eRep E S V x) (hF : qF V W x) (hG : gG g) (ha : W (x + 357) 6 = nI a) (hs : a ≤ 73) (hm : W (x + 357) 5 = nI m) (hm16 : m < 16) : ∃ W', qF V W' x ∧ (∀ j, ¬ j = 6 → W' (x + 357) j = W (x + 357) j) ∧ (∀ j, ¬ j = m → W' (x + 359) j = W (x + 359) j ∧ W' (x + 360) j = W (x + 360) j) ∧ (match pkd (pch g a) with
    | none => W' (x + 357) 6 = nI a ∧ ∀ Q : Option Value → xSh → xV → Prop, xC E mX3_takeCommand [.ref (x + 357)] S W Q ↔ Q (some (.int (nI 0))) S W'
    | some k => W' (x + 357) 6 = nI (knum g k (a + 1)).2.2 ∧ ((knum g k (a + 1)).1 = true → W' (x + 359) m = nI k ∧ W' (x + 360) m = nI (knum g k (a + 1)).2.1) ∧ ∀ Q : Option Value → xSh → xV → Prop, xC E mX3_takeCommand [.ref (x + 357)] S W Q ↔ Q (some (.int (nI (knum g k (a + 1)).1.toNat))) S W') := by
  have hWlow : ∀ b, b < x → W b = V b := fun b hb => hF.1 b (by omega) (by omega) (by omega)
  have hEW := eRep_o hE hWlow
  have hch := pch_lt hG a
  have hca := fun (Q : Option Value → xSh → xV → Prop) => k_charAt (E := E) (Q := Q) hT hd hF hG (i := a) (by omega)
  have hix := fun (Q : Option Value → xSh → xV → Prop) => k_indexOf (E := E) (S := S) (V := W) (Q := Q) hch hEW
  have hstr : xkd S E.2.2 = 13 := by obtain ⟨v, h, _⟩ := hE; exact h
  have hT0 := hT
  obtain ⟨tk0, tr0, tr1, tr2, tr3, tr4, tr5, tnow, ttry, hk0, hr0, hk1, hn1, hms, sk0, sn0, sms, ik0, in0, pk0, pr0, pr2, pr3, qk1, qn1, qk2, qn2, qk3, qn3⟩ := hT
  cases hk : pkd (pch g a) with
  | none =>
    rw [hk] at hix
    refine ⟨W, hF, fun _ _ => rfl, fun _ _ => ⟨rfl, rfl⟩, ha, fun Q => ?_⟩
    have hneg : ¬ nI 0 ≤ (-1 : Int32) := by decide
    show xX E mX3_takeCommand 0 [some (.ref (x + 357)), none] [] S W Q ↔ _
    simp (disch := (first | assumption | exact xnl_i _ | exact xnl_r _ | exact xnl_n | exact Bool.toNat_lt _ | exact hb _ | exact hb2 _ | omega | exact Nat.le_of_ble_eq_true rfl | rfl | decide)) only [pX3_takeCommand_0, pX3_takeCommand_2, pX3_takeCommand_3, pX3_takeCommand_4, pX3_takeCommand_7, pX3_takeCommand_10, pX3_takeCommand_13, pX3_takeCommand_14, pX3_takeCommand_15, pX3_takeCommand_18, pX3_takeCommand_19, nI_add, pk_mul, xn_sub, xn_and, xn_or, xn_xor, xn_shl, xn_shr, xn_lt, xn_le, xn_eq, xrf_some, xup_eq, xup_ne, xrow_eq, xrow_ne, Option.toList_some, Option.toList_none, List.singleton_append, List.nil_append, List.cons_append, xnl_n, xnl_i, xnl_r, Nat.zero_add, Nat.add_zero, ↓reduceIte, Nat.reduceEqDiff, Nat.reduceLeDiff, Nat.reduceAdd, Nat.reduceMul, Nat.reduceLT, Nat.one_ne_zero, eq_self, not_true_eq_false, not_false_eq_true, and_self, pk0, pr0, pr2, pr3, ha, hca, hix, ixo, hneg]
  | some k =>
    rw [hk] at hix
    obtain ⟨hk6, hc0⟩ := pkd_le hk
    have hae := pch_end hG hc0
    obtain ⟨W1, hW1⟩ : ∃ W1, W1 = xup (xup (xup W (x + 357) 6 (nI (a + 1))) (x + 359) m (nI k)) (x + 360) m (nI 0) := ⟨_, rfl⟩
    have f1 : qF V W1 x := by rw [hW1]; exact qF_row (qF_row (qF_up hF (by decide)) (Or.inl rfl)) (Or.inr rfl)
    have a1 : W1 (x + 357) 6 = nI (a + 1) := by rw [hW1, xup_ne (by omega), xup_ne (by omega), xup_eq]
    have m1 : W1 (x + 357) 5 = nI m := by rw [hW1, xup_ne (by omega), xup_ne (by omega), xup_ne (by omega)]; exact hm
    have j1 : ∀ j, ¬ j = 6 → W1 (x + 357) j = W (x + 357) j := fun j hj => by rw [hW1, xup_ne (by omega), xup_ne (by omega), xup_ne (by omega)]
    have r1 : ∀ j, ¬ j = m → W1 (x + 359) j = W (x + 359) j ∧ W1 (x + 360) j = W (x + 360) j := fun j hj => by
      rw [hW1, xup_ne (by omega), xup_ne (by omega), xup_ne (by omega), xup_ne (by omega), xup_ne (by omega), xup_ne (by omega)]; exact ⟨rfl, rfl⟩
    have k1 : W1 (x + 359) m = nI k := by rw [hW1, xup_ne (by omega), xup_eq]
    have z1 : W1 (x + 360) m = nI 0 := by rw [hW1, xup_eq]
    have hm6 : xup W (x + 357) 6 (nI (a + 1)) (x + 357) 5 = nI m := by rw [xup_ne (by omega)]; exact hm
    have hm7 : xup (xup W (x + 357) 6 (nI (a + 1))) (x + 359) m (nI k) (x + 357) 5 = nI m := by rw [xup_ne (by omega)]; exact hm6
    have head : ∀ Q : Option Value → xSh → xV → Prop, xX E mX3_takeCommand 0 [some (.ref (x + 357)), none] [] S W Q ↔ xX E mX3_takeCommand 50 [some (.ref (x + 357)), some (.int (nI k))] [] S W1 Q := by
      intro Q
      rw [hW1]
      simp (disch := (first | assumption | exact xnl_i _ | exact xnl_r _ | exact xnl_n | exact Bool.toNat_lt _ | exact hb _ | exact hb2 _ | omega | exact Nat.le_of_ble_eq_true rfl | rfl | decide)) only [pX3_takeCommand_0, pX3_takeCommand_2, pX3_takeCommand_3, pX3_takeCommand_4, pX3_takeCommand_7, pX3_takeCommand_10, pX3_takeCommand_13, pX3_takeCommand_14, pX3_takeCommand_15, pX3_takeCommand_18, pX3_takeCommand_19, pX3_takeCommand_20, pX3_takeCommand_21, pX3_takeCommand_21i, pX3_takeCommand_22, pX3_takeCommand_25, pX3_takeCommand_26, pX3_takeCommand_27, pX3_takeCommand_30, pX3_takeCommand_31, pX3_takeCommand_34, pX3_takeCommand_35, pX3_takeCommand_38, pX3_takeCommand_39, pX3_takeCommand_40, pX3_takeCommand_41, pX3_takeCommand_44, pX3_takeCommand_45, pX3_takeCommand_48, pX3_takeCommand_49, nI_add, pk_mul, xn_sub, xn_and, xn_or, xn_xor, xn_shl, xn_shr, xn_lt, xn_le, xn_eq, xrf_some, xup_eq, xup_ne, xrow_eq, xrow_ne, Option.toList_some, Option.toList_none, List.singleton_append, List.nil_append, List.cons_append, xnl_n, xnl_i, xnl_r, Nat.zero_add, Nat.add_zero, ↓reduceIte, Nat.reduceEqDiff, Nat.reduceLeDiff, Nat.reduceAdd, Nat.reduceMul, Nat.reduceLT, Nat.one_ne_zero, eq_self, not_true_eq_false, not_false_eq_true, and_self, pk0, pr0, pr2, pr3, ha, hca, hix, ixo, Nat.zero_le, hm, hm6, hm7]
    by_cases hk2 : k = 2
    · subst hk2
      refine ⟨W1, f1, j1, r1, a1, fun _ => ⟨k1, z1⟩, fun Q => ?_⟩
      show xX E mX3_takeCommand 0 [some (.ref (x + 357)), none] [] S W Q ↔ Q (some (.int (nI 1))) S W1
      rw [head]
      simp (disch := (first | assumption | exact xnl_i _ | exact xnl_r _ | exact xnl_n | exact Bool.toNat_lt _ | exact hb _ | exact hb2 _ | omega | exact Nat.le_of_ble_eq_true rfl | rfl | decide)) only [pX3_takeCommand_50, pX3_takeCommand_51, pX3_takeCommand_52, pX3_takeCommand_55, pX3_takeCommand_56, pX3_takeCommand_59, pX3_takeCommand_60, pX3_takeCommand_61, pX3_takeCommand_64, pX3_takeCommand_65, pX3_takeCommand_66, pX3_takeCommand_69, pX3_takeCommand_72, pX3_takeCommand_73, pX3_takeCommand_76, pX3_takeCommand_77, nI_add, pk_mul, xn_sub, xn_and, xn_or, xn_xor, xn_shl, xn_shr, xn_lt, xn_le, xn_eq, xrf_some, xup_eq, xup_ne, xrow_eq, xrow_ne, Option.toList_some, Option.toList_none, List.singleton_append, List.nil_append, List.cons_append, xnl_n, xnl_i, xnl_r, Nat.zero_add, Nat.add_zero, ↓reduceIte, Nat.reduceEqDiff, Nat.reduceLeDiff, Nat.reduceAdd, Nat.reduceMul, Nat.reduceLT, Nat.one_ne_zero, eq_self, not_true_eq_false, not_false_eq_true, and_self]
    · have ek : knum g k (a + 1) = ktn g (klo k) (khi k) (a + 1) := if_neg hk2
      dsimp only
      rw [ek]
      have hlo : klo k ≤ 100 := by unfold klo; split <;> omega
      have hhi : khi k ≤ 100 := by unfold khi; repeat' split
                                   all_goals omega
      obtain ⟨W2, f2, a2, j2, e2, n2, r2, i2⟩ := k_takeNumber (E := E) hT0 hd f1 hG a1 (by omega) hlo hhi m1 hm16
      obtain ⟨lk, ll, lv, gk, gl, gv, lx, gx⟩ := hO
      have h1low : ∀ b, b < x → W1 b = V b := fun b hb => f1.1 b (by omega) (by omega) (by omega)
      have hlv : W1 E.1 k = nI (klo k) := by rw [h1low _ lx]; exact lv k (by omega)
      have hgv : W1 E.2.1 k = nI (khi k) := by rw [h1low _ gx]; exact gv k (by omega)
      refine ⟨W2, f2, fun j hj => by rw [j2 j hj, j1 j hj], fun j hj => ⟨by rw [e2]; exact (r1 j hj).1, by rw [n2 j hj]; exact (r1 j hj).2⟩, a2, fun hok => ⟨by rw [e2]; exact k1, r2 hok⟩, fun Q => ?_⟩
      show xX E mX3_takeCommand 0 [some (.ref (x + 357)), none] [] S W Q ↔ _
      rw [head]
      cases hok : (ktn g (klo k) (khi k) (a + 1)).1 with
      | true =>
        rw [hok] at i2
        simp (disch := (first | assumption | exact xnl_i _ | exact xnl_r _ | exact xnl_n | exact Bool.toNat_lt _ | exact hb _ | exact hb2 _ | omega | exact Nat.le_of_ble_eq_true rfl | rfl | decide)) only [pX3_takeCommand_50, pX3_takeCommand_51, pX3_takeCommand_52, pX3_takeCommand_55, pX3_takeCommand_56, pX3_takeCommand_59, pX3_takeCommand_60, pX3_takeCommand_61, pX3_takeCommand_64, pX3_takeCommand_65, pX3_takeCommand_66, pX3_takeCommand_69, pX3_takeCommand_72, pX3_takeCommand_73, pX3_takeCommand_76, pX3_takeCommand_77, nI_add, pk_mul, xn_sub, xn_and, xn_or, xn_xor, xn_shl, xn_shr, xn_lt, xn_le, xn_eq, xrf_some, xup_eq, xup_ne, xrow_eq, xrow_ne, Option.toList_some, Option.toList_none, List.singleton_append, List.nil_append, List.cons_append, xnl_n, xnl_i, xnl_r, Nat.zero_add, Nat.add_zero, ↓reduceIte, Nat.reduceEqDiff, Nat.reduceLeDiff, Nat.reduceAdd, Nat.reduceMul, Nat.reduceLT, Nat.one_ne_zero, eq_self, not_true_eq_false, not_false_eq_true, and_self, hk2, pk0, pr0, pr2, pr3, lk, ll, gk, gl, hlv, hgv, i2, Bool.toNat_true]
      | false =>
        rw [hok] at i2
        simp (disch := (first | assumption | exact xnl_i _ | exact xnl_r _ | exact xnl_n | exact Bool.toNat_lt _ | exact hb _ | exact hb2 _ | omega | exact Nat.le_of_ble_eq_true rfl | rfl | decide)) only [pX3_takeCommand_50, pX3_takeCommand_51, pX3_takeCommand_52, pX3_takeCommand_55, pX3_takeCommand_56, pX3_takeCommand_59, pX3_takeCommand_60, pX3_takeCommand_61, pX3_takeCommand_64, pX3_takeCommand_65, pX3_takeCommand_66, pX3_takeCommand_69, pX3_takeCommand_72, pX3_takeCommand_73, pX3_takeCommand_76, pX3_takeCommand_77, nI_add, pk_mul, xn_sub, xn_and, xn_or, xn_xor, xn_shl, xn_shr, xn_lt, xn_le, xn_eq, xrf_some, xup_eq, xup_ne, xrow_eq, xrow_ne, Option.toList_some, Option.toList_none, List.singleton_append, List.nil_append, List.cons_append, xnl_n, xnl_i, xnl_r, Nat.zero_add, Nat.add_zero, ↓reduceIte, Nat.reduceEqDiff, Nat.reduceLeDiff, Nat.reduceAdd, Nat.reduceMul, Nat.reduceLT, Nat.one_ne_zero, eq_self, not_true_eq_false, not_false_eq_true, and_self, hk2, pk0, pr0, pr2, pr3, lk, ll, gk, gl, hlv, hgv, i2, Bool.toNat_false]
end KT2
