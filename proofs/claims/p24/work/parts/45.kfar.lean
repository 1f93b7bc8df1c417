/-! ===== the class: for whom one waits; who runs ===== -/
def klay (V : xV) (mb k : Nat) (f : Nat → Nat) : xV := fun a i => if a = mb + 3 ∧ i < k then nI (f i) else V a i
theorem klay_in {V : xV} {mb k : Nat} {f : Nat → Nat} {i : Nat} (h : i < k) : klay V mb k f (mb + 3) i = nI (f i) := if_pos ⟨rfl, h⟩
theorem klay_ne {V : xV} {mb k : Nat} {f : Nat → Nat} {a : Nat} (h : ¬ a = mb + 3) : klay V mb k f a = V a := by funext i; exact if_neg (fun z => h z.1)
theorem klay_0 {V : xV} {mb : Nat} {f : Nat → Nat} : klay V mb 0 f = V := by funext a i; exact if_neg (fun z => by omega)
theorem klay_s {V : xV} {mb k : Nat} {f : Nat → Nat} : xup (klay V mb k f) (mb + 3) k (nI (f k)) = klay V mb (k + 1) f := by
  funext a i
  unfold xup klay
  by_cases h : a = mb + 3 ∧ i = k
  · obtain ⟨rfl, rfl⟩ := h; simp
  · rw [if_neg h]
    by_cases h2 : a = mb + 3 ∧ i < k
    · rw [if_pos h2, if_pos ⟨h2.1, by omega⟩]
    · rw [if_neg h2, if_neg (fun z => by
        by_cases hik : i = k
        · exact h ⟨z.1, hik⟩
        · exact h2 ⟨z.1, by omega⟩)]
theorem klay_up {V : xV} {mb : Nat} {f : Nat → Nat} {c v : Nat} (hc : c < 8) : xup (klay V mb 8 f) (mb + 3) c (nI v) = klay V mb 8 (su f c v) := by
  funext a i
  unfold xup klay su
  by_cases h : a = mb + 3 ∧ i = c
  · obtain ⟨rfl, rfl⟩ := h; simp [hc]
  · rw [if_neg h]
    by_cases h2 : a = mb + 3 ∧ i < 8
    · rw [if_pos h2, if_pos h2, if_neg (fun z => h ⟨h2.1, z⟩)]
    · rw [if_neg h2, if_neg h2]
theorem klay_c {V : xV} {mb k : Nat} {f f' : Nat → Nat} (h : ∀ i, i < k → f i = f' i) : klay V mb k f = klay V mb k f' := by
  funext a i
  unfold klay
  by_cases h7 : a = mb + 3 ∧ i < k
  · rw [if_pos h7, if_pos h7, h i h7.2]
  · rw [if_neg h7, if_neg h7]
theorem psends_done {σ : Nat → Nat} {o c : Nat} (h : σ (62 * o) ≤ σ (62 * o + 1)) : psends σ o c = false := by
  unfold psends
  rw [show σ (62 * o) - σ (62 * o + 1) = 0 by omega]
  rfl
section KFR
variable {E : Nat × Nat × Nat} {S : xSh} {V V' W : xV} {Q : Option Value → xSh → xV → Prop} {mb c : Nat} {σ : Nat → Nat}
theorem klay_M {k : Nat} {f : Nat → Nat} (h : kN V mb σ) : kN (klay V mb k f) mb σ := kN_o h (fun a _ _ h3 => klay_ne h3)
theorem klay_out {k : Nat} {f : Nat → Nat} : kOut V (klay V mb k f) mb := fun a ha => klay_ne (by omega)
theorem k_sendersTo (hS : kShape S mb) (hK : kN V mb σ) (hw : wf σ) (hc : c < 8) : xC E mX2_sendersTo [.ref mb, .int (nI c)] S V Q ↔ Q (some (.int (nI (bm (fun o => decide (¬ o = c) && (decide (¬ σ (62 * o) ≤ σ (62 * o + 1)) && psends σ o c)) 8)))) S V := by
  have hS' := hS; obtain ⟨mk0, mr0, mr1, mr2, mk1, mn1, mk2, mn2, mk3, mn3, mcs⟩ := hS'; have hb := wf_b hw
  have inner : ∀ o, o < 8 → ¬ o = c → ∀ k n A, σ (62 * o + 1) + n + k = σ (62 * o) → (xX E mX2_sendersTo 25 [some (.ref mb), some (.int (nI c)), some (.int (nI (A ||| (if psend σ o c (σ (62 * o + 1)) n = true then 2 ^ o else 0)))), some (.int (nI o)), some (.ref (mb + (4 + 5 * o))), some (.int (nI (σ (62 * o + 1) + n)))] [] S V Q ↔ xX E mX2_sendersTo 4 [some (.ref mb), some (.int (nI c)), some (.int (nI (A ||| (if psends σ o c = true then 2 ^ o else 0)))), some (.int (nI (o + 1))), some (.ref (mb + (4 + 5 * o))), some (.int (nI (σ (62 * o))))] [] S V Q) := by
    intro o ho hoc k
    obtain ⟨mrc, hcs⟩ := mcs o ho
    obtain ⟨ck0, cr0, cr1, cr2, cr3, ck1, cn1, ck2, cn2, ck3, cn3, ck4, cn4⟩ := hcs
    obtain ⟨c4, c5, c6, c7, c8, c9, c10, ca, cb, cc, cd⟩ := hK.1 o ho
    obtain ⟨w1, w2, w3, w4, w5, w6, w7, w8, w9⟩ := hw.2.1 o ho
    have h231 : 1 * 2 ^ o < 4294967296 := by
      have : 2 ^ o ≤ 2 ^ 8 := Nat.pow_le_pow_right (by decide) (by omega)
      omega
    induction k with
    | zero =>
      intro n A hn
      have e : σ (62 * o + 1) + n = σ (62 * o) := by omega
      rw [psends_lim hn]
      simp (disch := (first | assumption | exact xnl_i _ | exact xnl_r _ | exact xnl_n | exact Bool.toNat_lt _ | exact hb _ | exact hb2 _ | omega | exact Nat.le_of_ble_eq_true rfl | rfl | decide)) only [pX2_sendersTo_0, pX2_sendersTo_1, pX2_sendersTo_2, pX2_sendersTo_3, pX2_sendersTo_5, pX2_sendersTo_7, pX2_sendersTo_10, pX2_sendersTo_11, pX2_sendersTo_14, pX2_sendersTo_15, pX2_sendersTo_16, pX2_sendersTo_18, pX2_sendersTo_20, pX2_sendersTo_23, pX2_sendersTo_25, pX2_sendersTo_27, pX2_sendersTo_29, pX2_sendersTo_32, pX2_sendersTo_35, pX2_sendersTo_36, pX2_sendersTo_37, pX2_sendersTo_40, pX2_sendersTo_42, pX2_sendersTo_45, pX2_sendersTo_47, pX2_sendersTo_48, pX2_sendersTo_49, pX2_sendersTo_52, pX2_sendersTo_54, pX2_sendersTo_57, pX2_sendersTo_59, pX2_sendersTo_60, pX2_sendersTo_61, pX2_sendersTo_64, pX2_sendersTo_65, pX2_sendersTo_66, pX2_sendersTo_67, pX2_sendersTo_68, pX2_sendersTo_69, pX2_sendersTo_70, pX2_sendersTo_73, pX2_sendersTo_76, pX2_sendersTo_79, pX2_sendersTo_82, pX2_sendersTo_83, nI_add, pk_mul, xn_sub, xn_and, xn_or, xn_xor, xn_shl, xn_shr, xn_lt, xn_le, xn_eq, xrf_some, xup_eq, xup_ne, xrow_eq, xrow_ne, Option.toList_some, Option.toList_none, List.singleton_append, List.nil_append, List.cons_append, xnl_n, xnl_i, xnl_r, Nat.zero_add, Nat.add_zero, ↓reduceIte, Nat.reduceEqDiff, Nat.reduceLeDiff, Nat.reduceAdd, Nat.reduceMul, Nat.reduceLT, Nat.one_ne_zero, eq_self, not_true_eq_false, not_false_eq_true, and_self, ck0, cr0, cr1, cr2, cr3, c4, e, Nat.le_refl]
    | succ k ih =>
      intro n A hn
      have h : ¬ σ (62 * o) ≤ σ (62 * o + 1) + n := by omega
      obtain ⟨hok, hmk⟩ := w9 (σ (62 * o + 1) + n) (by omega)
      have hca := ca (σ (62 * o + 1) + n) (by omega)
      have hcb := cb (σ (62 * o + 1) + n) (by omega)
      have hcb1 : pcmd σ o (σ (62 * o + 1) + n) < 2147483648 := hb _
      have hab1 : parg σ o (σ (62 * o + 1) + n) < 2147483648 := hb _
      have ih2 := ih (n + 1) A (by omega)
      rw [pX2_sendersTo_25]
      by_cases h1 : pcmd σ o (σ (62 * o + 1) + n) = 1
      · by_cases h2 : parg σ o (σ (62 * o + 1) + n) = c
        · have e : psend σ o c (σ (62 * o + 1)) (n + 1) = true := by unfold psend; simp [h1, h2]
          have e2 : (A ||| (if psend σ o c (σ (62 * o + 1)) n = true then 2 ^ o else 0)) ||| 2 ^ o = A ||| 2 ^ o := by
            rw [Nat.or_assoc]
            split
            · rw [Nat.or_self]
            · rw [Nat.zero_or]
          rw [e, if_pos rfl] at ih2
          simp (disch := (first | assumption | exact xnl_i _ | exact xnl_r _ | exact xnl_n | exact Bool.toNat_lt _ | exact hb _ | exact hb2 _ | omega | exact Nat.le_of_ble_eq_true rfl | rfl | decide)) only [pX2_sendersTo_0, pX2_sendersTo_1, pX2_sendersTo_2, pX2_sendersTo_3, pX2_sendersTo_5, pX2_sendersTo_7, pX2_sendersTo_10, pX2_sendersTo_11, pX2_sendersTo_14, pX2_sendersTo_15, pX2_sendersTo_16, pX2_sendersTo_18, pX2_sendersTo_20, pX2_sendersTo_23, pX2_sendersTo_27, pX2_sendersTo_29, pX2_sendersTo_32, pX2_sendersTo_35, pX2_sendersTo_36, pX2_sendersTo_37, pX2_sendersTo_40, pX2_sendersTo_42, pX2_sendersTo_45, pX2_sendersTo_47, pX2_sendersTo_48, pX2_sendersTo_49, pX2_sendersTo_52, pX2_sendersTo_54, pX2_sendersTo_57, pX2_sendersTo_59, pX2_sendersTo_60, pX2_sendersTo_61, pX2_sendersTo_64, pX2_sendersTo_65, pX2_sendersTo_66, pX2_sendersTo_67, pX2_sendersTo_68, pX2_sendersTo_69, pX2_sendersTo_70, pX2_sendersTo_73, pX2_sendersTo_76, pX2_sendersTo_79, pX2_sendersTo_82, pX2_sendersTo_83, nI_add, pk_mul, xn_sub, xn_and, xn_or, xn_xor, xn_shl, xn_shr, xn_lt, xn_le, xn_eq, xrf_some, xup_eq, xup_ne, xrow_eq, xrow_ne, Option.toList_some, Option.toList_none, List.singleton_append, List.nil_append, List.cons_append, xnl_n, xnl_i, xnl_r, Nat.zero_add, Nat.add_zero, ↓reduceIte, Nat.reduceEqDiff, Nat.reduceLeDiff, Nat.reduceAdd, Nat.reduceMul, Nat.reduceLT, Nat.one_ne_zero, eq_self, not_true_eq_false, not_false_eq_true, and_self, ck0, cr0, cr1, cr2, cr3, c4, h, hoc, hca, hcb, h1, h2, Nat.one_mul, e2]
          exact ih2
        · have e : psend σ o c (σ (62 * o + 1)) (n + 1) = psend σ o c (σ (62 * o + 1)) n := by rw [psend]; simp [h2]
          rw [e] at ih2
          simp (disch := (first | assumption | exact xnl_i _ | exact xnl_r _ | exact xnl_n | exact Bool.toNat_lt _ | exact hb _ | exact hb2 _ | omega | exact Nat.le_of_ble_eq_true rfl | rfl | decide)) only [pX2_sendersTo_0, pX2_sendersTo_1, pX2_sendersTo_2, pX2_sendersTo_3, pX2_sendersTo_5, pX2_sendersTo_7, pX2_sendersTo_10, pX2_sendersTo_11, pX2_sendersTo_14, pX2_sendersTo_15, pX2_sendersTo_16, pX2_sendersTo_18, pX2_sendersTo_20, pX2_sendersTo_23, pX2_sendersTo_27, pX2_sendersTo_29, pX2_sendersTo_32, pX2_sendersTo_35, pX2_sendersTo_36, pX2_sendersTo_37, pX2_sendersTo_40, pX2_sendersTo_42, pX2_sendersTo_45, pX2_sendersTo_47, pX2_sendersTo_48, pX2_sendersTo_49, pX2_sendersTo_52, pX2_sendersTo_54, pX2_sendersTo_57, pX2_sendersTo_59, pX2_sendersTo_60, pX2_sendersTo_61, pX2_sendersTo_64, pX2_sendersTo_65, pX2_sendersTo_66, pX2_sendersTo_67, pX2_sendersTo_68, pX2_sendersTo_69, pX2_sendersTo_70, pX2_sendersTo_73, pX2_sendersTo_76, pX2_sendersTo_79, pX2_sendersTo_82, pX2_sendersTo_83, nI_add, pk_mul, xn_sub, xn_and, xn_or, xn_xor, xn_shl, xn_shr, xn_lt, xn_le, xn_eq, xrf_some, xup_eq, xup_ne, xrow_eq, xrow_ne, Option.toList_some, Option.toList_none, List.singleton_append, List.nil_append, List.cons_append, xnl_n, xnl_i, xnl_r, Nat.zero_add, Nat.add_zero, ↓reduceIte, Nat.reduceEqDiff, Nat.reduceLeDiff, Nat.reduceAdd, Nat.reduceMul, Nat.reduceLT, Nat.one_ne_zero, eq_self, not_true_eq_false, not_false_eq_true, and_self, ck0, cr0, cr1, cr2, cr3, c4, h, hoc, hca, hcb, h1, h2]
          exact ih2
      · have e : psend σ o c (σ (62 * o + 1)) (n + 1) = psend σ o c (σ (62 * o + 1)) n := by rw [psend]; simp [h1]
        rw [e] at ih2
        simp (disch := (first | assumption | exact xnl_i _ | exact xnl_r _ | exact xnl_n | exact Bool.toNat_lt _ | exact hb _ | exact hb2 _ | omega | exact Nat.le_of_ble_eq_true rfl | rfl | decide)) only [pX2_sendersTo_0, pX2_sendersTo_1, pX2_sendersTo_2, pX2_sendersTo_3, pX2_sendersTo_5, pX2_sendersTo_7, pX2_sendersTo_10, pX2_sendersTo_11, pX2_sendersTo_14, pX2_sendersTo_15, pX2_sendersTo_16, pX2_sendersTo_18, pX2_sendersTo_20, pX2_sendersTo_23, pX2_sendersTo_27, pX2_sendersTo_29, pX2_sendersTo_32, pX2_sendersTo_35, pX2_sendersTo_36, pX2_sendersTo_37, pX2_sendersTo_40, pX2_sendersTo_42, pX2_sendersTo_45, pX2_sendersTo_47, pX2_sendersTo_48, pX2_sendersTo_49, pX2_sendersTo_52, pX2_sendersTo_54, pX2_sendersTo_57, pX2_sendersTo_59, pX2_sendersTo_60, pX2_sendersTo_61, pX2_sendersTo_64, pX2_sendersTo_65, pX2_sendersTo_66, pX2_sendersTo_67, pX2_sendersTo_68, pX2_sendersTo_69, pX2_sendersTo_70, pX2_sendersTo_73, pX2_sendersTo_76, pX2_sendersTo_79, pX2_sendersTo_82, pX2_sendersTo_83, nI_add, pk_mul, xn_sub, xn_and, xn_or, xn_xor, xn_shl, xn_shr, xn_lt, xn_le, xn_eq, xrf_some, xup_eq, xup_ne, xrow_eq, xrow_ne, Option.toList_some, Option.toList_none, List.singleton_append, List.nil_append, List.cons_append, xnl_n, xnl_i, xnl_r, Nat.zero_add, Nat.add_zero, ↓reduceIte, Nat.reduceEqDiff, Nat.reduceLeDiff, Nat.reduceAdd, Nat.reduceMul, Nat.reduceLT, Nat.one_ne_zero, eq_self, not_true_eq_false, not_false_eq_true, and_self, ck0, cr0, cr1, cr2, cr3, c4, h, hoc, hca, h1]
        exact ih2
  have loop : ∀ k i l4 l5, i + k = 8 → xnl l4 = true → (xX E mX2_sendersTo 4 [some (.ref mb), some (.int (nI c)), some (.int (nI (bm (fun o => decide (¬ o = c) && (decide (¬ σ (62 * o) ≤ σ (62 * o + 1)) && psends σ o c)) i))), some (.int (nI i)), l4, l5] [] S V Q ↔ Q (some (.int (nI (bm (fun o => decide (¬ o = c) && (decide (¬ σ (62 * o) ≤ σ (62 * o + 1)) && psends σ o c)) 8)))) S V) := by
    intro k
    induction k with
    | zero =>
      intro i l4 l5 hn hl4
      have hi : i = 8 := by omega
      subst hi
      simp (disch := (first | assumption | exact xnl_i _ | exact xnl_r _ | exact xnl_n | exact Bool.toNat_lt _ | exact hb _ | exact hb2 _ | omega | exact Nat.le_of_ble_eq_true rfl | rfl | decide)) only [pX2_sendersTo_0, pX2_sendersTo_1, pX2_sendersTo_2, pX2_sendersTo_3, pX2_sendersTo_4, pX2_sendersTo_5, pX2_sendersTo_7, pX2_sendersTo_10, pX2_sendersTo_11, pX2_sendersTo_14, pX2_sendersTo_15, pX2_sendersTo_16, pX2_sendersTo_18, pX2_sendersTo_20, pX2_sendersTo_23, pX2_sendersTo_25, pX2_sendersTo_27, pX2_sendersTo_29, pX2_sendersTo_32, pX2_sendersTo_35, pX2_sendersTo_36, pX2_sendersTo_37, pX2_sendersTo_40, pX2_sendersTo_42, pX2_sendersTo_45, pX2_sendersTo_47, pX2_sendersTo_48, pX2_sendersTo_49, pX2_sendersTo_52, pX2_sendersTo_54, pX2_sendersTo_57, pX2_sendersTo_59, pX2_sendersTo_60, pX2_sendersTo_61, pX2_sendersTo_64, pX2_sendersTo_65, pX2_sendersTo_66, pX2_sendersTo_67, pX2_sendersTo_68, pX2_sendersTo_69, pX2_sendersTo_70, pX2_sendersTo_73, pX2_sendersTo_76, pX2_sendersTo_79, pX2_sendersTo_82, pX2_sendersTo_83, nI_add, pk_mul, xn_sub, xn_and, xn_or, xn_xor, xn_shl, xn_shr, xn_lt, xn_le, xn_eq, xrf_some, xup_eq, xup_ne, xrow_eq, xrow_ne, Option.toList_some, Option.toList_none, List.singleton_append, List.nil_append, List.cons_append, xnl_n, xnl_i, xnl_r, Nat.zero_add, Nat.add_zero, ↓reduceIte, Nat.reduceEqDiff, Nat.reduceLeDiff, Nat.reduceAdd, Nat.reduceMul, Nat.reduceLT, Nat.one_ne_zero, eq_self, not_true_eq_false, not_false_eq_true, and_self]
    | succ k ih =>
      intro i l4 l5 hn hl4
      have h : ¬ 8 ≤ i := by omega
      have hi8 : i < 8 := by omega
      obtain ⟨mrc, hcs⟩ := mcs i hi8
      obtain ⟨ck0, cr0, cr1, cr2, cr3, ck1, cn1, ck2, cn2, ck3, cn3, ck4, cn4⟩ := hcs
      obtain ⟨c4, c5, c6, c7, c8, c9, c10, ca, cb, cc, cd⟩ := hK.1 i hi8
      have ih2 := fun l5 => ih (i + 1) (some (.ref (mb + (4 + 5 * i)))) l5 (by omega) rfl
      rw [bm_s] at ih2
      rw [pX2_sendersTo_4]
      by_cases h1 : i = c
      · rw [show (decide (¬ i = c) && (decide (¬ σ (62 * i) ≤ σ (62 * i + 1)) && psends σ i c)) = false by simp [h1]] at ih2
        simp only [Bool.false_eq_true, if_false, Nat.or_zero] at ih2
        subst h1
        by_cases hp : σ (62 * i) ≤ σ (62 * i + 1)
        · simp (disch := (first | assumption | exact xnl_i _ | exact xnl_r _ | exact xnl_n | exact Bool.toNat_lt _ | exact hb _ | exact hb2 _ | omega | exact Nat.le_of_ble_eq_true rfl | rfl | decide)) only [pX2_sendersTo_0, pX2_sendersTo_1, pX2_sendersTo_2, pX2_sendersTo_3, pX2_sendersTo_5, pX2_sendersTo_7, pX2_sendersTo_10, pX2_sendersTo_11, pX2_sendersTo_14, pX2_sendersTo_15, pX2_sendersTo_16, pX2_sendersTo_18, pX2_sendersTo_20, pX2_sendersTo_23, pX2_sendersTo_25, pX2_sendersTo_27, pX2_sendersTo_29, pX2_sendersTo_32, pX2_sendersTo_35, pX2_sendersTo_36, pX2_sendersTo_37, pX2_sendersTo_40, pX2_sendersTo_42, pX2_sendersTo_45, pX2_sendersTo_47, pX2_sendersTo_48, pX2_sendersTo_49, pX2_sendersTo_52, pX2_sendersTo_54, pX2_sendersTo_57, pX2_sendersTo_59, pX2_sendersTo_60, pX2_sendersTo_61, pX2_sendersTo_64, pX2_sendersTo_65, pX2_sendersTo_66, pX2_sendersTo_67, pX2_sendersTo_68, pX2_sendersTo_69, pX2_sendersTo_70, pX2_sendersTo_73, pX2_sendersTo_76, pX2_sendersTo_79, pX2_sendersTo_82, pX2_sendersTo_83, nI_add, pk_mul, xn_sub, xn_and, xn_or, xn_xor, xn_shl, xn_shr, xn_lt, xn_le, xn_eq, xrf_some, xup_eq, xup_ne, xrow_eq, xrow_ne, Option.toList_some, Option.toList_none, List.singleton_append, List.nil_append, List.cons_append, xnl_n, xnl_i, xnl_r, Nat.zero_add, Nat.add_zero, ↓reduceIte, Nat.reduceEqDiff, Nat.reduceLeDiff, Nat.reduceAdd, Nat.reduceMul, Nat.reduceLT, Nat.one_ne_zero, eq_self, not_true_eq_false, not_false_eq_true, and_self, mk0, mr0, mr1, mr2, mrc, ck0, cr0, cr1, cr2, cr3, c4, c6, h, hp]
          exact ih2 _
        · simp (disch := (first | assumption | exact xnl_i _ | exact xnl_r _ | exact xnl_n | exact Bool.toNat_lt _ | exact hb _ | exact hb2 _ | omega | exact Nat.le_of_ble_eq_true rfl | rfl | decide)) only [pX2_sendersTo_0, pX2_sendersTo_1, pX2_sendersTo_2, pX2_sendersTo_3, pX2_sendersTo_5, pX2_sendersTo_7, pX2_sendersTo_10, pX2_sendersTo_11, pX2_sendersTo_14, pX2_sendersTo_15, pX2_sendersTo_16, pX2_sendersTo_18, pX2_sendersTo_20, pX2_sendersTo_23, pX2_sendersTo_25, pX2_sendersTo_27, pX2_sendersTo_29, pX2_sendersTo_32, pX2_sendersTo_35, pX2_sendersTo_36, pX2_sendersTo_37, pX2_sendersTo_40, pX2_sendersTo_42, pX2_sendersTo_45, pX2_sendersTo_47, pX2_sendersTo_48, pX2_sendersTo_49, pX2_sendersTo_52, pX2_sendersTo_54, pX2_sendersTo_57, pX2_sendersTo_59, pX2_sendersTo_60, pX2_sendersTo_61, pX2_sendersTo_64, pX2_sendersTo_65, pX2_sendersTo_66, pX2_sendersTo_67, pX2_sendersTo_68, pX2_sendersTo_69, pX2_sendersTo_70, pX2_sendersTo_73, pX2_sendersTo_76, pX2_sendersTo_79, pX2_sendersTo_82, pX2_sendersTo_83, nI_add, pk_mul, xn_sub, xn_and, xn_or, xn_xor, xn_shl, xn_shr, xn_lt, xn_le, xn_eq, xrf_some, xup_eq, xup_ne, xrow_eq, xrow_ne, Option.toList_some, Option.toList_none, List.singleton_append, List.nil_append, List.cons_append, xnl_n, xnl_i, xnl_r, Nat.zero_add, Nat.add_zero, ↓reduceIte, Nat.reduceEqDiff, Nat.reduceLeDiff, Nat.reduceAdd, Nat.reduceMul, Nat.reduceLT, Nat.one_ne_zero, eq_self, not_true_eq_false, not_false_eq_true, and_self, mk0, mr0, mr1, mr2, mrc, ck0, cr0, cr1, cr2, cr3, c4, c6, h, hp]
          exact ih2 _
      · by_cases hp : σ (62 * i) ≤ σ (62 * i + 1)
        · rw [show (decide (¬ i = c) && (decide (¬ σ (62 * i) ≤ σ (62 * i + 1)) && psends σ i c)) = false by simp [hp]] at ih2
          simp only [Bool.false_eq_true, if_false, Nat.or_zero] at ih2
          simp (disch := (first | assumption | exact xnl_i _ | exact xnl_r _ | exact xnl_n | exact Bool.toNat_lt _ | exact hb _ | exact hb2 _ | omega | exact Nat.le_of_ble_eq_true rfl | rfl | decide)) only [pX2_sendersTo_0, pX2_sendersTo_1, pX2_sendersTo_2, pX2_sendersTo_3, pX2_sendersTo_5, pX2_sendersTo_7, pX2_sendersTo_10, pX2_sendersTo_11, pX2_sendersTo_14, pX2_sendersTo_15, pX2_sendersTo_16, pX2_sendersTo_18, pX2_sendersTo_20, pX2_sendersTo_23, pX2_sendersTo_25, pX2_sendersTo_27, pX2_sendersTo_29, pX2_sendersTo_32, pX2_sendersTo_35, pX2_sendersTo_36, pX2_sendersTo_37, pX2_sendersTo_40, pX2_sendersTo_42, pX2_sendersTo_45, pX2_sendersTo_47, pX2_sendersTo_48, pX2_sendersTo_49, pX2_sendersTo_52, pX2_sendersTo_54, pX2_sendersTo_57, pX2_sendersTo_59, pX2_sendersTo_60, pX2_sendersTo_61, pX2_sendersTo_64, pX2_sendersTo_65, pX2_sendersTo_66, pX2_sendersTo_67, pX2_sendersTo_68, pX2_sendersTo_69, pX2_sendersTo_70, pX2_sendersTo_73, pX2_sendersTo_76, pX2_sendersTo_79, pX2_sendersTo_82, pX2_sendersTo_83, nI_add, pk_mul, xn_sub, xn_and, xn_or, xn_xor, xn_shl, xn_shr, xn_lt, xn_le, xn_eq, xrf_some, xup_eq, xup_ne, xrow_eq, xrow_ne, Option.toList_some, Option.toList_none, List.singleton_append, List.nil_append, List.cons_append, xnl_n, xnl_i, xnl_r, Nat.zero_add, Nat.add_zero, ↓reduceIte, Nat.reduceEqDiff, Nat.reduceLeDiff, Nat.reduceAdd, Nat.reduceMul, Nat.reduceLT, Nat.one_ne_zero, eq_self, not_true_eq_false, not_false_eq_true, and_self, mk0, mr0, mr1, mr2, mrc, ck0, cr0, cr1, cr2, cr3, c4, c6, h, hp]
          exact ih2 _
        · rw [show (decide (¬ i = c) && (decide (¬ σ (62 * i) ≤ σ (62 * i + 1)) && psends σ i c)) = psends σ i c by simp [h1, hp]] at ih2
          have hin := inner i hi8 h1 (σ (62 * i) - σ (62 * i + 1)) 0 (bm (fun o => decide (¬ o = c) && (decide (¬ σ (62 * o) ≤ σ (62 * o + 1)) && psends σ o c)) i) (by omega)
          have e0 : psend σ i c (σ (62 * i + 1)) 0 = false := rfl
          rw [e0, if_neg (by decide), Nat.or_zero, Nat.add_zero] at hin
          simp (disch := (first | assumption | exact xnl_i _ | exact xnl_r _ | exact xnl_n | exact Bool.toNat_lt _ | exact hb _ | exact hb2 _ | omega | exact Nat.le_of_ble_eq_true rfl | rfl | decide)) only [pX2_sendersTo_5, pX2_sendersTo_7, pX2_sendersTo_10, pX2_sendersTo_11, pX2_sendersTo_14, pX2_sendersTo_15, pX2_sendersTo_16, pX2_sendersTo_18, pX2_sendersTo_20, pX2_sendersTo_23, nI_add, pk_mul, xn_sub, xn_and, xn_or, xn_xor, xn_shl, xn_shr, xn_lt, xn_le, xn_eq, xrf_some, xup_eq, xup_ne, xrow_eq, xrow_ne, Option.toList_some, Option.toList_none, List.singleton_append, List.nil_append, List.cons_append, xnl_n, xnl_i, xnl_r, Nat.zero_add, Nat.add_zero, ↓reduceIte, Nat.reduceEqDiff, Nat.reduceLeDiff, Nat.reduceAdd, Nat.reduceMul, Nat.reduceLT, Nat.one_ne_zero, eq_self, not_true_eq_false, not_false_eq_true, and_self, mk0, mr0, mr1, mr2, mrc, ck0, cr0, cr1, cr2, cr3, c6, h]
          rw [hin]
          exact ih2 _
  show xX E mX2_sendersTo 0 [some (.ref mb), some (.int (nI c)), none, none, none, none] [] S V Q ↔ _
  simp (disch := (first | assumption | exact xnl_i _ | exact xnl_r _ | exact xnl_n | exact Bool.toNat_lt _ | exact hb _ | exact hb2 _ | omega | exact Nat.le_of_ble_eq_true rfl | rfl | decide)) only [pX2_sendersTo_0, pX2_sendersTo_1, pX2_sendersTo_2, pX2_sendersTo_3, nI_add, pk_mul, xn_sub, xn_and, xn_or, xn_xor, xn_shl, xn_shr, xn_lt, xn_le, xn_eq, xrf_some, xup_eq, xup_ne, xrow_eq, xrow_ne, Option.toList_some, Option.toList_none, List.singleton_append, List.nil_append, List.cons_append, xnl_n, xnl_i, xnl_r, Nat.zero_add, Nat.add_zero, ↓reduceIte, Nat.reduceEqDiff, Nat.reduceLeDiff, Nat.reduceAdd, Nat.reduceMul, Nat.reduceLT, Nat.one_ne_zero, eq_self, not_true_eq_false, not_false_eq_true, and_self]
  exact loop 8 0 none none rfl rfl
theorem k_waitsOf (hS : kShape S mb) (hK : kN V mb σ) (hw : wf σ) (hc : c < 8) : xC E mX2_waitsOf [.ref mb, .int (nI c)] S V Q ↔ Q (some (.int (nI (pwait σ c)))) S V := by
  have hS' := hS; obtain ⟨mk0, mr0, mr1, mr2, mk1, mn1, mk2, mn2, mk3, mn3, mcs⟩ := hS'; have hb := wf_b hw
  obtain ⟨mrc, hcs⟩ := mcs c hc
  obtain ⟨ck0, cr0, cr1, cr2, cr3, ck1, cn1, ck2, cn2, ck3, cn3, ck4, cn4⟩ := hcs
  obtain ⟨c4, c5, c6, c7, c8, c9, c10, ca, cb, cc, cd⟩ := hK.1 c hc
  obtain ⟨w1, w2, w3, w4, w5, w6, w7, w8, w9⟩ := hw.2.1 c hc
  obtain ⟨q5, q3⟩ := pst_arg hw hc
  have hst := pst_le σ c
  show xX E mX2_waitsOf 0 [some (.ref mb), some (.int (nI c)), none] [] S V Q ↔ _
  simp (disch := (first | assumption | exact xnl_i _ | exact xnl_r _ | exact xnl_n | exact Bool.toNat_lt _ | exact hb _ | exact hb2 _ | omega | exact Nat.le_of_ble_eq_true rfl | rfl | decide)) only [pX2_waitsOf_0, pX2_waitsOf_1, pX2_waitsOf_4, pX2_waitsOf_5, pX2_waitsOf_6, pX2_waitsOf_7, pX2_waitsOf_8, pX2_waitsOf_9, nI_add, pk_mul, xn_sub, xn_and, xn_or, xn_xor, xn_shl, xn_shr, xn_lt, xn_le, xn_eq, xrf_some, xup_eq, xup_ne, xrow_eq, xrow_ne, Option.toList_some, Option.toList_none, List.singleton_append, List.nil_append, List.cons_append, xnl_n, xnl_i, xnl_r, Nat.zero_add, Nat.add_zero, ↓reduceIte, Nat.reduceEqDiff, Nat.reduceLeDiff, Nat.reduceAdd, Nat.reduceMul, Nat.reduceLT, Nat.one_ne_zero, eq_self, not_true_eq_false, not_false_eq_true, and_self, mk0, mr0, mr1, mr2, mrc, k_stateOf hS hK hw]
  by_cases h3 : pst σ c = 3
  · obtain ⟨hq, hpos⟩ := q3 h3
    have hnd : σ (62 * c + 1) < σ (62 * c) := by
      apply Classical.byContradiction; intro z
      have := pst_0 (σ := σ) (c := c) |>.mpr (by omega)
      omega
    have hcb := cb _ hnd
    have hhn := hK.2.1 _ (show parg σ c (σ (62 * c + 1)) < 4 by omega)
    have hh8 := hw.2.2 _ (show parg σ c (σ (62 * c + 1)) < 4 by omega)
    rw [hI_s (by omega)] at hhn
    have h231 : 1 * 2 ^ (σ (497 + parg σ c (σ (62 * c + 1))) - 1) < 4294967296 := by
      have : 2 ^ (σ (497 + parg σ c (σ (62 * c + 1))) - 1) ≤ 2 ^ 8 := Nat.pow_le_pow_right (by decide) (by omega)
      omega
    have e : pwait σ c = 2 ^ (σ (497 + parg σ c (σ (62 * c + 1))) - 1) := by unfold pwait; rw [if_neg (by omega), if_pos h3]
    rw [e]
    simp (disch := (first | assumption | exact xnl_i _ | exact xnl_r _ | exact xnl_n | exact Bool.toNat_lt _ | exact hb _ | exact hb2 _ | omega | exact Nat.le_of_ble_eq_true rfl | rfl | decide)) only [pX2_waitsOf_12_k3, pX2_waitsOf_12_k4, pX2_waitsOf_12_k5, pX2_waitsOf_12_d, pX2_waitsOf_40, pX2_waitsOf_41, pX2_waitsOf_42, pX2_waitsOf_45, pX2_waitsOf_46, pX2_waitsOf_49, pX2_waitsOf_50, pX2_waitsOf_53, pX2_waitsOf_54, pX2_waitsOf_55, pX2_waitsOf_56, pX2_waitsOf_57, pX2_waitsOf_58, pX2_waitsOf_59, pX2_waitsOf_62, pX2_waitsOf_63, pX2_waitsOf_64, pX2_waitsOf_65, pX2_waitsOf_68, pX2_waitsOf_69, pX2_waitsOf_72, pX2_waitsOf_73, pX2_waitsOf_74, pX2_waitsOf_75, pX2_waitsOf_76, nI_add, pk_mul, xn_sub, xn_and, xn_or, xn_xor, xn_shl, xn_shr, xn_lt, xn_le, xn_eq, xrf_some, xup_eq, xup_ne, xrow_eq, xrow_ne, Option.toList_some, Option.toList_none, List.singleton_append, List.nil_append, List.cons_append, xnl_n, xnl_i, xnl_r, Nat.zero_add, Nat.add_zero, ↓reduceIte, Nat.reduceEqDiff, Nat.reduceLeDiff, Nat.reduceAdd, Nat.reduceMul, Nat.reduceLT, Nat.one_ne_zero, eq_self, not_true_eq_false, not_false_eq_true, and_self, mk0, mr0, mr1, mr2, h3, ck0, cr0, cr1, cr2, cr3, c6, hcb, hhn, Nat.one_mul]
  · by_cases h4 : pst σ c = 4
    · have e : pwait σ c = bm (fun o => decide (¬ o = c) && (decide (¬ σ (62 * o) ≤ σ (62 * o + 1)) && psends σ o c)) 8 := by unfold pwait; rw [if_neg (by omega), if_neg (by omega), if_pos h4]
      rw [e]
      simp (disch := (first | assumption | exact xnl_i _ | exact xnl_r _ | exact xnl_n | exact Bool.toNat_lt _ | exact hb _ | exact hb2 _ | omega | exact Nat.le_of_ble_eq_true rfl | rfl | decide)) only [pX2_waitsOf_12_k3, pX2_waitsOf_12_k4, pX2_waitsOf_12_k5, pX2_waitsOf_12_d, pX2_waitsOf_40, pX2_waitsOf_41, pX2_waitsOf_42, pX2_waitsOf_45, pX2_waitsOf_46, pX2_waitsOf_49, pX2_waitsOf_50, pX2_waitsOf_53, pX2_waitsOf_54, pX2_waitsOf_55, pX2_waitsOf_56, pX2_waitsOf_57, pX2_waitsOf_58, pX2_waitsOf_59, pX2_waitsOf_62, pX2_waitsOf_63, pX2_waitsOf_64, pX2_waitsOf_65, pX2_waitsOf_68, pX2_waitsOf_69, pX2_waitsOf_72, pX2_waitsOf_73, pX2_waitsOf_74, pX2_waitsOf_75, pX2_waitsOf_76, nI_add, pk_mul, xn_sub, xn_and, xn_or, xn_xor, xn_shl, xn_shr, xn_lt, xn_le, xn_eq, xrf_some, xup_eq, xup_ne, xrow_eq, xrow_ne, Option.toList_some, Option.toList_none, List.singleton_append, List.nil_append, List.cons_append, xnl_n, xnl_i, xnl_r, Nat.zero_add, Nat.add_zero, ↓reduceIte, Nat.reduceEqDiff, Nat.reduceLeDiff, Nat.reduceAdd, Nat.reduceMul, Nat.reduceLT, Nat.one_ne_zero, eq_self, not_true_eq_false, not_false_eq_true, and_self, mk0, mr0, mr1, mr2, h4, k_sendersTo hS hK hw]
    · by_cases h5 : pst σ c = 5
      · have hq := q5 h5
        have hnd : σ (62 * c + 1) < σ (62 * c) := by
          apply Classical.byContradiction; intro z
          have := pst_0 (σ := σ) (c := c) |>.mpr (by omega)
          omega
        have hcb := cb _ hnd
        have h231 : 1 * 2 ^ parg σ c (σ (62 * c + 1)) < 4294967296 := by
          have : 2 ^ parg σ c (σ (62 * c + 1)) ≤ 2 ^ 8 := Nat.pow_le_pow_right (by decide) (by omega)
          omega
        have e : pwait σ c = 2 ^ parg σ c (σ (62 * c + 1)) := by unfold pwait; rw [if_pos h5]
        rw [e]
        simp (disch := (first | assumption | exact xnl_i _ | exact xnl_r _ | exact xnl_n | exact Bool.toNat_lt _ | exact hb _ | exact hb2 _ | omega | exact Nat.le_of_ble_eq_true rfl | rfl | decide)) only [pX2_waitsOf_12_k3, pX2_waitsOf_12_k4, pX2_waitsOf_12_k5, pX2_waitsOf_12_d, pX2_waitsOf_40, pX2_waitsOf_41, pX2_waitsOf_42, pX2_waitsOf_45, pX2_waitsOf_46, pX2_waitsOf_49, pX2_waitsOf_50, pX2_waitsOf_53, pX2_waitsOf_54, pX2_waitsOf_55, pX2_waitsOf_56, pX2_waitsOf_57, pX2_waitsOf_58, pX2_waitsOf_59, pX2_waitsOf_62, pX2_waitsOf_63, pX2_waitsOf_64, pX2_waitsOf_65, pX2_waitsOf_68, pX2_waitsOf_69, pX2_waitsOf_72, pX2_waitsOf_73, pX2_waitsOf_74, pX2_waitsOf_75, pX2_waitsOf_76, nI_add, pk_mul, xn_sub, xn_and, xn_or, xn_xor, xn_shl, xn_shr, xn_lt, xn_le, xn_eq, xrf_some, xup_eq, xup_ne, xrow_eq, xrow_ne, Option.toList_some, Option.toList_none, List.singleton_append, List.nil_append, List.cons_append, xnl_n, xnl_i, xnl_r, Nat.zero_add, Nat.add_zero, ↓reduceIte, Nat.reduceEqDiff, Nat.reduceLeDiff, Nat.reduceAdd, Nat.reduceMul, Nat.reduceLT, Nat.one_ne_zero, eq_self, not_true_eq_false, not_false_eq_true, and_self, mk0, mr0, mr1, mr2, h5, ck0, cr0, cr1, cr2, cr3, c6, hcb, Nat.one_mul]
      · have e : pwait σ c = 0 := by unfold pwait; rw [if_neg h5, if_neg h3, if_neg h4]
        rw [e]
        have hd : (nI (pst σ c)).toInt < 3 ∨ 5 < (nI (pst σ c)).toInt := by rw [xn_toInt (by omega)]; omega
        simp (disch := (first | assumption | exact xnl_i _ | exact xnl_r _ | exact xnl_n | exact Bool.toNat_lt _ | exact hb _ | exact hb2 _ | omega | exact Nat.le_of_ble_eq_true rfl | rfl | decide)) only [pX2_waitsOf_12_d hd, pX2_waitsOf_75, pX2_waitsOf_76, nI_add, pk_mul, xn_sub, xn_and, xn_or, xn_xor, xn_shl, xn_shr, xn_lt, xn_le, xn_eq, xrf_some, xup_eq, xup_ne, xrow_eq, xrow_ne, Option.toList_some, Option.toList_none, List.singleton_append, List.nil_append, List.cons_append, xnl_n, xnl_i, xnl_r, Nat.zero_add, Nat.add_zero, ↓reduceIte, Nat.reduceEqDiff, Nat.reduceLeDiff, Nat.reduceAdd, Nat.reduceMul, Nat.reduceLT, Nat.one_ne_zero, eq_self, not_true_eq_false, not_false_eq_true, and_self]
theorem k_findAllWaits (hS : kShape S mb) (hK : kN V mb σ) (hw : wf σ) : xC E mX2_findAllWaits [.ref mb] S V Q ↔ Q (some (.ref (mb + 3))) S (klay V mb 8 (pfar σ)) := by
  have hS' := hS; obtain ⟨mk0, mr0, mr1, mr2, mk1, mn1, mk2, mn2, mk3, mn3, mcs⟩ := hS'; have hb := wf_b hw
  have inner : ∀ k i a f, i + k = 8 → a < 8 → (∀ i, f i < 256) → (xX E mX2_findAllWaits 35 [some (.ref mb), some (.int (nI a)), some (.int (nI i))] [] S (klay V mb 8 (itN (fun c f => fstep c a f) i f)) Q ↔ xX E mX2_findAllWaits 27 [some (.ref mb), some (.int (nI (a + 1))), some (.int (nI 8))] [] S (klay V mb 8 (wrnd a f)) Q) := by
    intro k
    induction k with
    | zero =>
      intro i a f hn ha hf
      have hi : i = 8 := by omega
      subst hi
      simp (disch := (first | assumption | exact xnl_i _ | exact xnl_r _ | exact xnl_n | exact Bool.toNat_lt _ | exact hb _ | exact hb2 _ | omega | exact Nat.le_of_ble_eq_true rfl | rfl | decide)) only [pX2_findAllWaits_0, pX2_findAllWaits_1, pX2_findAllWaits_2, pX2_findAllWaits_3, pX2_findAllWaits_5, pX2_findAllWaits_8, pX2_findAllWaits_9, pX2_findAllWaits_12, pX2_findAllWaits_13, pX2_findAllWaits_14, pX2_findAllWaits_15, pX2_findAllWaits_18, pX2_findAllWaits_19, pX2_findAllWaits_22, pX2_findAllWaits_25, pX2_findAllWaits_26, pX2_findAllWaits_28, pX2_findAllWaits_30, pX2_findAllWaits_33, pX2_findAllWaits_34, pX2_findAllWaits_35, pX2_findAllWaits_36, pX2_findAllWaits_38, pX2_findAllWaits_41, pX2_findAllWaits_42, pX2_findAllWaits_45, pX2_findAllWaits_46, pX2_findAllWaits_47, pX2_findAllWaits_48, pX2_findAllWaits_51, pX2_findAllWaits_54, pX2_findAllWaits_55, pX2_findAllWaits_58, pX2_findAllWaits_59, pX2_findAllWaits_60, pX2_findAllWaits_61, pX2_findAllWaits_62, pX2_findAllWaits_65, pX2_findAllWaits_66, pX2_findAllWaits_67, pX2_findAllWaits_68, pX2_findAllWaits_69, pX2_findAllWaits_72, pX2_findAllWaits_75, pX2_findAllWaits_78, pX2_findAllWaits_81, pX2_findAllWaits_82, pX2_findAllWaits_85, nI_add, pk_mul, xn_sub, xn_and, xn_or, xn_xor, xn_shl, xn_shr, xn_lt, xn_le, xn_eq, xrf_some, xup_eq, xup_ne, xrow_eq, xrow_ne, Option.toList_some, Option.toList_none, List.singleton_append, List.nil_append, List.cons_append, xnl_n, xnl_i, xnl_r, Nat.zero_add, Nat.add_zero, ↓reduceIte, Nat.reduceEqDiff, Nat.reduceLeDiff, Nat.reduceAdd, Nat.reduceMul, Nat.reduceLT, Nat.one_ne_zero, eq_self, not_true_eq_false, not_false_eq_true, and_self]
      rfl
    | succ k ih =>
      intro i a f hn ha hf
      have h : ¬ 8 ≤ i := by omega
      have hi8 : i < 8 := by omega
      have ih2 := ih (i + 1) a f (by omega) ha hf
      rw [itN_s] at ih2
      have hf' : ∀ j, itN (fun c f => fstep c a f) i f j < 256 := itN_in (P := fun f : Nat → Nat => ∀ i, f i < 256) (g := fun c f => fstep c a f) (fun _ _ hf => fstep_lt hf) i f hf
      generalize itN (fun c f => fstep c a f) i f = g at ih2 hf' ⊢
      have hb2 : ∀ j, g j < 2147483648 := fun j => Nat.lt_trans (hf' j) (by decide)
      rw [pX2_findAllWaits_35]
      unfold fstep at ih2
      cases hq : (g i).testBit a with
      | true =>
        rw [hq, if_pos rfl] at ih2
        simp (disch := (first | assumption | exact xnl_i _ | exact xnl_r _ | exact xnl_n | exact Bool.toNat_lt _ | exact hb _ | exact hb2 _ | omega | exact Nat.le_of_ble_eq_true rfl | rfl | decide)) only [pX2_findAllWaits_0, pX2_findAllWaits_1, pX2_findAllWaits_2, pX2_findAllWaits_3, pX2_findAllWaits_5, pX2_findAllWaits_8, pX2_findAllWaits_9, pX2_findAllWaits_12, pX2_findAllWaits_13, pX2_findAllWaits_14, pX2_findAllWaits_15, pX2_findAllWaits_18, pX2_findAllWaits_19, pX2_findAllWaits_22, pX2_findAllWaits_25, pX2_findAllWaits_26, pX2_findAllWaits_28, pX2_findAllWaits_30, pX2_findAllWaits_33, pX2_findAllWaits_34, pX2_findAllWaits_36, pX2_findAllWaits_38, pX2_findAllWaits_41, pX2_findAllWaits_42, pX2_findAllWaits_45, pX2_findAllWaits_46, pX2_findAllWaits_47, pX2_findAllWaits_48, pX2_findAllWaits_51, pX2_findAllWaits_54, pX2_findAllWaits_55, pX2_findAllWaits_58, pX2_findAllWaits_59, pX2_findAllWaits_60, pX2_findAllWaits_61, pX2_findAllWaits_62, pX2_findAllWaits_65, pX2_findAllWaits_66, pX2_findAllWaits_67, pX2_findAllWaits_68, pX2_findAllWaits_69, pX2_findAllWaits_72, pX2_findAllWaits_75, pX2_findAllWaits_78, pX2_findAllWaits_81, pX2_findAllWaits_82, pX2_findAllWaits_85, nI_add, pk_mul, xn_sub, xn_and, xn_or, xn_xor, xn_shl, xn_shr, xn_lt, xn_le, xn_eq, xrf_some, xup_eq, xup_ne, xrow_eq, xrow_ne, Option.toList_some, Option.toList_none, List.singleton_append, List.nil_append, List.cons_append, xnl_n, xnl_i, xnl_r, Nat.zero_add, Nat.add_zero, ↓reduceIte, Nat.reduceEqDiff, Nat.reduceLeDiff, Nat.reduceAdd, Nat.reduceMul, Nat.reduceLT, Nat.one_ne_zero, eq_self, not_true_eq_false, not_false_eq_true, and_self, mk0, mr0, mr1, mr2, h, klay_in, s_has, hq, Bool.toNat_true, klay_up]
        exact ih2
      | false =>
        rw [hq, if_neg (by decide), Nat.or_zero] at ih2
        rw [← klay_up hi8] at ih2
        have e : xup (klay V mb 8 g) (mb + 3) i (nI (g i)) = klay V mb 8 g := by
          rw [klay_up hi8, su_same]
        rw [e] at ih2
        simp (disch := (first | assumption | exact xnl_i _ | exact xnl_r _ | exact xnl_n | exact Bool.toNat_lt _ | exact hb _ | exact hb2 _ | omega | exact Nat.le_of_ble_eq_true rfl | rfl | decide)) only [pX2_findAllWaits_0, pX2_findAllWaits_1, pX2_findAllWaits_2, pX2_findAllWaits_3, pX2_findAllWaits_5, pX2_findAllWaits_8, pX2_findAllWaits_9, pX2_findAllWaits_12, pX2_findAllWaits_13, pX2_findAllWaits_14, pX2_findAllWaits_15, pX2_findAllWaits_18, pX2_findAllWaits_19, pX2_findAllWaits_22, pX2_findAllWaits_25, pX2_findAllWaits_26, pX2_findAllWaits_28, pX2_findAllWaits_30, pX2_findAllWaits_33, pX2_findAllWaits_34, pX2_findAllWaits_36, pX2_findAllWaits_38, pX2_findAllWaits_41, pX2_findAllWaits_42, pX2_findAllWaits_45, pX2_findAllWaits_46, pX2_findAllWaits_47, pX2_findAllWaits_48, pX2_findAllWaits_51, pX2_findAllWaits_54, pX2_findAllWaits_55, pX2_findAllWaits_58, pX2_findAllWaits_59, pX2_findAllWaits_60, pX2_findAllWaits_61, pX2_findAllWaits_62, pX2_findAllWaits_65, pX2_findAllWaits_66, pX2_findAllWaits_67, pX2_findAllWaits_68, pX2_findAllWaits_69, pX2_findAllWaits_72, pX2_findAllWaits_75, pX2_findAllWaits_78, pX2_findAllWaits_81, pX2_findAllWaits_82, pX2_findAllWaits_85, nI_add, pk_mul, xn_sub, xn_and, xn_or, xn_xor, xn_shl, xn_shr, xn_lt, xn_le, xn_eq, xrf_some, xup_eq, xup_ne, xrow_eq, xrow_ne, Option.toList_some, Option.toList_none, List.singleton_append, List.nil_append, List.cons_append, xnl_n, xnl_i, xnl_r, Nat.zero_add, Nat.add_zero, ↓reduceIte, Nat.reduceEqDiff, Nat.reduceLeDiff, Nat.reduceAdd, Nat.reduceMul, Nat.reduceLT, Nat.one_ne_zero, eq_self, not_true_eq_false, not_false_eq_true, and_self, mk0, mr0, mr1, mr2, h, klay_in, s_has, hq, Bool.toNat_false]
        exact ih2
  have outer : ∀ k i f l2, i + k = 8 → (∀ i, f i < 256) → (xX E mX2_findAllWaits 27 [some (.ref mb), some (.int (nI i)), l2] [] S (klay V mb 8 (itN wrnd i f)) Q ↔ Q (some (.ref (mb + 3))) S (klay V mb 8 (war f))) := by
    intro k
    induction k with
    | zero =>
      intro i f l2 hn hf
      have hi : i = 8 := by omega
      subst hi
      simp (disch := (first | assumption | exact xnl_i _ | exact xnl_r _ | exact xnl_n | exact Bool.toNat_lt _ | exact hb _ | exact hb2 _ | omega | exact Nat.le_of_ble_eq_true rfl | rfl | decide)) only [pX2_findAllWaits_27, pX2_findAllWaits_28, pX2_findAllWaits_30, pX2_findAllWaits_81, pX2_findAllWaits_82, pX2_findAllWaits_85, nI_add, pk_mul, xn_sub, xn_and, xn_or, xn_xor, xn_shl, xn_shr, xn_lt, xn_le, xn_eq, xrf_some, xup_eq, xup_ne, xrow_eq, xrow_ne, Option.toList_some, Option.toList_none, List.singleton_append, List.nil_append, List.cons_append, xnl_n, xnl_i, xnl_r, Nat.zero_add, Nat.add_zero, ↓reduceIte, Nat.reduceEqDiff, Nat.reduceLeDiff, Nat.reduceAdd, Nat.reduceMul, Nat.reduceLT, Nat.one_ne_zero, eq_self, not_true_eq_false, not_false_eq_true, and_self, mk0, mr0, mr1, mr2]
      rfl
    | succ k ih =>
      intro i f l2 hn hf
      have h : ¬ 8 ≤ i := by omega
      have hi8 : i < 8 := by omega
      have ih2 := ih (i + 1) f (some (.int (nI 8))) (by omega) hf
      rw [itN_s] at ih2
      have hf' : ∀ j, itN wrnd i f j < 256 := itN_in (P := fun f : Nat → Nat => ∀ i, f i < 256) (g := wrnd) (fun a f hf => itN_in (P := fun f : Nat → Nat => ∀ i, f i < 256) (g := fun c f => fstep c a f) (fun _ _ hf => fstep_lt hf) 8 f hf) i f hf
      rw [pX2_findAllWaits_27]
      simp (disch := (first | assumption | exact xnl_i _ | exact xnl_r _ | exact xnl_n | exact Bool.toNat_lt _ | exact hb _ | exact hb2 _ | omega | exact Nat.le_of_ble_eq_true rfl | rfl | decide)) only [pX2_findAllWaits_28, pX2_findAllWaits_30, pX2_findAllWaits_33, pX2_findAllWaits_34, nI_add, pk_mul, xn_sub, xn_and, xn_or, xn_xor, xn_shl, xn_shr, xn_lt, xn_le, xn_eq, xrf_some, xup_eq, xup_ne, xrow_eq, xrow_ne, Option.toList_some, Option.toList_none, List.singleton_append, List.nil_append, List.cons_append, xnl_n, xnl_i, xnl_r, Nat.zero_add, Nat.add_zero, ↓reduceIte, Nat.reduceEqDiff, Nat.reduceLeDiff, Nat.reduceAdd, Nat.reduceMul, Nat.reduceLT, Nat.one_ne_zero, eq_self, not_true_eq_false, not_false_eq_true, and_self, h]
      rw [← ih2]
      exact inner 8 0 i _ rfl hi8 hf'
  have loop0 : ∀ k i, i + k = 8 → (xX E mX2_findAllWaits 2 [some (.ref mb), some (.int (nI i)), none] [] S (klay V mb i (pwait σ)) Q ↔ Q (some (.ref (mb + 3))) S (klay V mb 8 (pfar σ))) := by
    intro k
    induction k with
    | zero =>
      intro i hn
      have hi : i = 8 := by omega
      subst hi
      have e : klay V mb 8 (pwait σ) = klay V mb 8 (fto (pwait σ) (fun _ => 0) 8) := klay_c (fun i hi => by unfold fto; rw [if_pos hi])
      have e2 : klay V mb 8 (pfar σ) = klay V mb 8 (war (fto (pwait σ) (fun _ => 0) 8)) := klay_c (fun i hi => (war_far hi).symm)
      simp (disch := (first | assumption | exact xnl_i _ | exact xnl_r _ | exact xnl_n | exact Bool.toNat_lt _ | exact hb _ | exact hb2 _ | omega | exact Nat.le_of_ble_eq_true rfl | rfl | decide)) only [pX2_findAllWaits_2, pX2_findAllWaits_3, pX2_findAllWaits_5, pX2_findAllWaits_8, pX2_findAllWaits_9, pX2_findAllWaits_12, pX2_findAllWaits_13, pX2_findAllWaits_14, pX2_findAllWaits_15, pX2_findAllWaits_18, pX2_findAllWaits_19, pX2_findAllWaits_22, pX2_findAllWaits_25, pX2_findAllWaits_26, nI_add, pk_mul, xn_sub, xn_and, xn_or, xn_xor, xn_shl, xn_shr, xn_lt, xn_le, xn_eq, xrf_some, xup_eq, xup_ne, xrow_eq, xrow_ne, Option.toList_some, Option.toList_none, List.singleton_append, List.nil_append, List.cons_append, xnl_n, xnl_i, xnl_r, Nat.zero_add, Nat.add_zero, ↓reduceIte, Nat.reduceEqDiff, Nat.reduceLeDiff, Nat.reduceAdd, Nat.reduceMul, Nat.reduceLT, Nat.one_ne_zero, eq_self, not_true_eq_false, not_false_eq_true, and_self]
      rw [e, e2]
      exact outer 8 0 _ none rfl (fto_lt (fun i hi => pwait_lt hw hi))
    | succ k ih =>
      intro i hn
      have h : ¬ 8 ≤ i := by omega
      have hi8 : i < 8 := by omega
      have ih2 := ih (i + 1) (by omega)
      rw [← klay_s] at ih2
      have hm : kN (klay V mb i (pwait σ)) mb σ := klay_M hK
      rw [pX2_findAllWaits_2]
      simp (disch := (first | assumption | exact xnl_i _ | exact xnl_r _ | exact xnl_n | exact Bool.toNat_lt _ | exact hb _ | exact hb2 _ | omega | exact Nat.le_of_ble_eq_true rfl | rfl | decide)) only [pX2_findAllWaits_3, pX2_findAllWaits_5, pX2_findAllWaits_8, pX2_findAllWaits_9, pX2_findAllWaits_12, pX2_findAllWaits_13, pX2_findAllWaits_14, pX2_findAllWaits_15, pX2_findAllWaits_18, pX2_findAllWaits_19, pX2_findAllWaits_22, nI_add, pk_mul, xn_sub, xn_and, xn_or, xn_xor, xn_shl, xn_shr, xn_lt, xn_le, xn_eq, xrf_some, xup_eq, xup_ne, xrow_eq, xrow_ne, Option.toList_some, Option.toList_none, List.singleton_append, List.nil_append, List.cons_append, xnl_n, xnl_i, xnl_r, Nat.zero_add, Nat.add_zero, ↓reduceIte, Nat.reduceEqDiff, Nat.reduceLeDiff, Nat.reduceAdd, Nat.reduceMul, Nat.reduceLT, Nat.one_ne_zero, eq_self, not_true_eq_false, not_false_eq_true, and_self, mk0, mr0, mr1, mr2, h, k_waitsOf hS hm hw]
      exact ih2
  have := loop0 8 0 rfl
  rw [klay_0] at this
  show xX E mX2_findAllWaits 0 [some (.ref mb), none, none] [] S V Q ↔ _
  simp (disch := (first | assumption | exact xnl_i _ | exact xnl_r _ | exact xnl_n | exact Bool.toNat_lt _ | exact hb _ | exact hb2 _ | omega | exact Nat.le_of_ble_eq_true rfl | rfl | decide)) only [pX2_findAllWaits_0, pX2_findAllWaits_1, nI_add, pk_mul, xn_sub, xn_and, xn_or, xn_xor, xn_shl, xn_shr, xn_lt, xn_le, xn_eq, xrf_some, xup_eq, xup_ne, xrow_eq, xrow_ne, Option.toList_some, Option.toList_none, List.singleton_append, List.nil_append, List.cons_append, xnl_n, xnl_i, xnl_r, Nat.zero_add, Nat.add_zero, ↓reduceIte, Nat.reduceEqDiff, Nat.reduceLeDiff, Nat.reduceAdd, Nat.reduceMul, Nat.reduceLT, Nat.one_ne_zero, eq_self, not_true_eq_false, not_false_eq_true, and_self]
  exact this
end KFR

