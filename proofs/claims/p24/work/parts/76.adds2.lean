/-! ===== the law's addsUp, whole ===== -/
section AD2
variable {E : Nat × Nat × Nat} {S : xSh} {V : xV} {Q : Option Value → xSh → xV → Prop} {x k : Nat} {g : pG} {l1 l2 l3 l4 l5 l6 l7 l8 l9 l11 l12 l13 l14 : Option Value}
theorem u_loop (hG : gG g) (ha : acc (gσ g)) : ∀ n k V (b8 b9 : Bool) l11 l12 l13 l14, k + n = 8 → cRep S V x g → (∀ j, j < k → bad (gσ g) j → b8 = true) → (b9 = true ↔ ∃ j, j < k ∧ pst (gσ g) j = 2) → (∀ V' (b8 b9 : Bool) l11 l12 l13 l14, cRep S V' x g → tOut V V' x → (∀ j, j < 8 → bad (gσ g) j → b8 = true) → (b9 = true ↔ ∃ j, j < 8 ∧ pst (gσ g) j = 2) → xX E mL_addsUp 368 [some (.ref x), some (.int (nI (gσ g 496))), some (.int (nI (psum (gσ g) 12 8))), some (.int (nI (psum (gσ g) 11 8))), some (.int (nI (psum (gσ g) 13 8))), some (.int (nI (pcnt (pin (gσ g) 0) 8))), some (.int (nI (bm (fun c => decide (pst (gσ g) c = 1)) 8))), some (.int (nI (bm (fun c => (pfar (gσ g) c).testBit c) 8))), some (.int (nI b8.toNat)), some (.int (nI b9.toNat)), some (.int (nI 8)), l11, l12, l13, l14] [] S V' Q) → xX E mL_addsUp 31 [some (.ref x), some (.int (nI (gσ g 496))), some (.int (nI (psum (gσ g) 12 k))), some (.int (nI (psum (gσ g) 11 k))), some (.int (nI (psum (gσ g) 13 k))), some (.int (nI (pcnt (pin (gσ g) 0) k))), some (.int (nI (bm (fun c => decide (pst (gσ g) c = 1)) k))), some (.int (nI (bm (fun c => (pfar (gσ g) c).testBit c) k))), some (.int (nI b8.toNat)), some (.int (nI b9.toNat)), some (.int (nI k)), l11, l12, l13, l14] [] S V Q := by
  intro n
  induction n with
  | zero =>
    intro k V b8 b9 l11 l12 l13 l14 hn hR h8 h9 hQ
    have hk : k = 8 := by omega
    subst hk
    simp (disch := (first | assumption | exact xnl_i _ | exact xnl_r _ | exact xnl_n | exact Bool.toNat_lt _ | exact hb _ | exact hb2 _ | omega | exact Nat.le_of_ble_eq_true rfl | rfl | decide)) only [pL_addsUp_31, pL_addsUp_33, pL_addsUp_35, nI_add, pk_mul, xn_sub, xn_and, xn_or, xn_xor, xn_shl, xn_shr, xn_lt, xn_le, xn_eq, xrf_some, xup_eq, xup_ne, xrow_eq, xrow_ne, Option.toList_some, Option.toList_none, List.singleton_append, List.nil_append, List.cons_append, xnl_n, xnl_i, xnl_r, Nat.zero_add, Nat.add_zero, ↓reduceIte, Nat.reduceEqDiff, Nat.reduceLeDiff, Nat.reduceAdd, Nat.reduceMul, Nat.reduceLT, Nat.one_ne_zero, eq_self, not_true_eq_false, not_false_eq_true, and_self]
    exact hQ V b8 b9 l11 l12 l13 l14 hR tOut_r h8 h9
  | succ n ih =>
    intro k V b8 b9 l11 l12 l13 l14 hn hR h8 h9 hQ
    have hk : k < 8 := by omega
    have hne : ¬ 8 ≤ k := by omega
    simp (disch := (first | assumption | exact xnl_i _ | exact xnl_r _ | exact xnl_n | exact Bool.toNat_lt _ | exact hb _ | exact hb2 _ | omega | exact Nat.le_of_ble_eq_true rfl | rfl | decide)) only [pL_addsUp_31, pL_addsUp_33, pL_addsUp_35, nI_add, pk_mul, xn_sub, xn_and, xn_or, xn_xor, xn_shl, xn_shr, xn_lt, xn_le, xn_eq, xrf_some, xup_eq, xup_ne, xrow_eq, xrow_ne, Option.toList_some, Option.toList_none, List.singleton_append, List.nil_append, List.cons_append, xnl_n, xnl_i, xnl_r, Nat.zero_add, Nat.add_zero, ↓reduceIte, Nat.reduceEqDiff, Nat.reduceLeDiff, Nat.reduceAdd, Nat.reduceMul, Nat.reduceLT, Nat.one_ne_zero, eq_self, not_true_eq_false, not_false_eq_true, and_self, hne]
    refine u_A hR hG ha hk (fun V1 hR1 o1 => ?_)
    refine u_B hR1 hG hk (fun V2 hR2 o2 => ?_)
    refine u_C hk ?_
    refine u_D hR2 hG hk (fun V3 hR3 o3 => ?_)
    refine u_E (fun c9 hc9 => ?_)
    refine u_F hR3 hG hk (fun V4 hR4 o4 c8 hc8 hc8' => ?_)
    refine u_G hG hk 8 0 V4 c8 _ rfl hR4 (fun V5 d8 l14' hR5 o5 hd8 hd8' => ?_)
    simp (disch := (first | assumption | exact xnl_i _ | exact xnl_r _ | exact xnl_n | exact Bool.toNat_lt _ | exact hb _ | exact hb2 _ | omega | exact Nat.le_of_ble_eq_true rfl | rfl | decide)) only [pL_addsUp_362, pL_addsUp_365, nI_add, pk_mul, xn_sub, xn_and, xn_or, xn_xor, xn_shl, xn_shr, xn_lt, xn_le, xn_eq, xrf_some, xup_eq, xup_ne, xrow_eq, xrow_ne, Option.toList_some, Option.toList_none, List.singleton_append, List.nil_append, List.cons_append, xnl_n, xnl_i, xnl_r, Nat.zero_add, Nat.add_zero, ↓reduceIte, Nat.reduceEqDiff, Nat.reduceLeDiff, Nat.reduceAdd, Nat.reduceMul, Nat.reduceLT, Nat.one_ne_zero, eq_self, not_true_eq_false, not_false_eq_true, and_self]
    refine ih (k + 1) V5 d8 c9 _ _ _ _ (by omega) hR5 (fun j hj hbad => ?_) ⟨fun z => ?_, fun z => ?_⟩ (fun V6 b8' b9' m11 m12 m13 m14 hR6 o6 h8' h9' => hQ V6 b8' b9' m11 m12 m13 m14 hR6 (tOut_t o1 (tOut_t o2 (tOut_t o3 (tOut_t o4 (tOut_t o5 o6))))) h8' h9')
    · by_cases hjk : j = k
      · subst hjk
        obtain ⟨h2, h | h | ⟨e, he, hb, h0⟩⟩ := hbad
        · exact hd8 (hc8' h2 (Or.inl h))
        · exact hd8 (hc8' h2 (Or.inr h))
        · exact hd8' e (Nat.zero_le e) he hb h0
      · exact hd8 (hc8 (h8 j (by omega) hbad))
    · rcases hc9.mp z with h | h
      · obtain ⟨j, hj, hj2⟩ := h9.mp h
        exact ⟨j, by omega, hj2⟩
      · exact ⟨k, by omega, h⟩
    · obtain ⟨j, hj, hj2⟩ := z
      by_cases hjk : j = k
      · subst hjk; exact hc9.mpr (Or.inr hj2)
      · exact hc9.mpr (Or.inl (h9.mpr ⟨j, by omega, hj2⟩))
theorem u_H1 {b8 b9 : Bool} (h9 : b9 = true ↔ ∃ j, j < 8 ∧ pst (gσ g) j = 2) (hQ : xX E mL_addsUp 392 [l1, l2, l3, l4, l5, some (.int (nI (pcnt (pin (gσ g) 0) 8))), some (.int (nI (pin (gσ g) 1))), l8, l9, some (.int (nI b9.toNat)), some (.int (nI (pstuck (gσ g)).toNat)), l11, l12, l13, l14] [] S V Q) : xX E mL_addsUp 368 [l1, l2, l3, l4, l5, some (.int (nI (pcnt (pin (gσ g) 0) 8))), some (.int (nI (pin (gσ g) 1))), l8, l9, some (.int (nI b9.toNat)), some (.int (nI 8)), l11, l12, l13, l14] [] S V Q := by
  have hst := pst_stuck (σ := gσ g)
  have hp8 := pcnt_le (pin (gσ g) 0) 8
  have hp1 : pin (gσ g) 1 < 2147483648 := bm_lt8 _
  by_cases h0 : 8 ≤ pcnt (pin (gσ g) 0) 8
  · have e : pstuck (gσ g) = false := by
      cases hs : pstuck (gσ g) with
      | false => rfl
      | true => have := (hst.mp hs).1; omega
    rw [e] at hQ
    cases b9 with
    | true =>
      rw [Bool.toNat_true] at hQ ⊢
      simp (disch := (first | assumption | exact xnl_i _ | exact xnl_r _ | exact xnl_n | exact Bool.toNat_lt _ | exact hb _ | exact hb2 _ | omega | exact Nat.le_of_ble_eq_true rfl | rfl | decide)) only [pL_addsUp_368, pL_addsUp_370, pL_addsUp_372, pL_addsUp_375, pL_addsUp_377, pL_addsUp_380, pL_addsUp_382, pL_addsUp_385, pL_addsUp_386, pL_addsUp_389, pL_addsUp_390, nI_add, pk_mul, xn_sub, xn_and, xn_or, xn_xor, xn_shl, xn_shr, xn_lt, xn_le, xn_eq, xrf_some, xup_eq, xup_ne, xrow_eq, xrow_ne, Option.toList_some, Option.toList_none, List.singleton_append, List.nil_append, List.cons_append, xnl_n, xnl_i, xnl_r, Nat.zero_add, Nat.add_zero, ↓reduceIte, Nat.reduceEqDiff, Nat.reduceLeDiff, Nat.reduceAdd, Nat.reduceMul, Nat.reduceLT, Nat.one_ne_zero, eq_self, not_true_eq_false, not_false_eq_true, and_self, h0]
      exact hQ
    | false =>
      rw [Bool.toNat_false] at hQ ⊢
      simp (disch := (first | assumption | exact xnl_i _ | exact xnl_r _ | exact xnl_n | exact Bool.toNat_lt _ | exact hb _ | exact hb2 _ | omega | exact Nat.le_of_ble_eq_true rfl | rfl | decide)) only [pL_addsUp_368, pL_addsUp_370, pL_addsUp_372, pL_addsUp_375, pL_addsUp_377, pL_addsUp_380, pL_addsUp_382, pL_addsUp_385, pL_addsUp_386, pL_addsUp_389, pL_addsUp_390, nI_add, pk_mul, xn_sub, xn_and, xn_or, xn_xor, xn_shl, xn_shr, xn_lt, xn_le, xn_eq, xrf_some, xup_eq, xup_ne, xrow_eq, xrow_ne, Option.toList_some, Option.toList_none, List.singleton_append, List.nil_append, List.cons_append, xnl_n, xnl_i, xnl_r, Nat.zero_add, Nat.add_zero, ↓reduceIte, Nat.reduceEqDiff, Nat.reduceLeDiff, Nat.reduceAdd, Nat.reduceMul, Nat.reduceLT, Nat.one_ne_zero, eq_self, not_true_eq_false, not_false_eq_true, and_self, h0]
      exact hQ
  · by_cases h1 : pin (gσ g) 1 = 0
    · cases b9 with
      | true =>
        have e : pstuck (gσ g) = false := by
          cases hs : pstuck (gσ g) with
          | false => rfl
          | true =>
            obtain ⟨j, hj, hj2⟩ := h9.mp rfl
            exact absurd hj2 ((hst.mp hs).2.2 j hj)
        rw [e] at hQ
        rw [Bool.toNat_true] at hQ ⊢
        rw [h1] at hQ ⊢
        simp (disch := (first | assumption | exact xnl_i _ | exact xnl_r _ | exact xnl_n | exact Bool.toNat_lt _ | exact hb _ | exact hb2 _ | omega | exact Nat.le_of_ble_eq_true rfl | rfl | decide)) only [pL_addsUp_368, pL_addsUp_370, pL_addsUp_372, pL_addsUp_375, pL_addsUp_377, pL_addsUp_380, pL_addsUp_382, pL_addsUp_385, pL_addsUp_386, pL_addsUp_389, pL_addsUp_390, nI_add, pk_mul, xn_sub, xn_and, xn_or, xn_xor, xn_shl, xn_shr, xn_lt, xn_le, xn_eq, xrf_some, xup_eq, xup_ne, xrow_eq, xrow_ne, Option.toList_some, Option.toList_none, List.singleton_append, List.nil_append, List.cons_append, xnl_n, xnl_i, xnl_r, Nat.zero_add, Nat.add_zero, ↓reduceIte, Nat.reduceEqDiff, Nat.reduceLeDiff, Nat.reduceAdd, Nat.reduceMul, Nat.reduceLT, Nat.one_ne_zero, eq_self, not_true_eq_false, not_false_eq_true, and_self, h0]
        exact hQ
      | false =>
        have e : pstuck (gσ g) = true := hst.mpr ⟨by omega, h1, fun c hc z => by have := h9.mpr ⟨c, hc, z⟩; cases this⟩
        rw [e] at hQ
        rw [Bool.toNat_false, Bool.toNat_true] at hQ
        rw [Bool.toNat_false]
        rw [h1] at hQ ⊢
        simp (disch := (first | assumption | exact xnl_i _ | exact xnl_r _ | exact xnl_n | exact Bool.toNat_lt _ | exact hb _ | exact hb2 _ | omega | exact Nat.le_of_ble_eq_true rfl | rfl | decide)) only [pL_addsUp_368, pL_addsUp_370, pL_addsUp_372, pL_addsUp_375, pL_addsUp_377, pL_addsUp_380, pL_addsUp_382, pL_addsUp_385, pL_addsUp_386, pL_addsUp_389, pL_addsUp_390, nI_add, pk_mul, xn_sub, xn_and, xn_or, xn_xor, xn_shl, xn_shr, xn_lt, xn_le, xn_eq, xrf_some, xup_eq, xup_ne, xrow_eq, xrow_ne, Option.toList_some, Option.toList_none, List.singleton_append, List.nil_append, List.cons_append, xnl_n, xnl_i, xnl_r, Nat.zero_add, Nat.add_zero, ↓reduceIte, Nat.reduceEqDiff, Nat.reduceLeDiff, Nat.reduceAdd, Nat.reduceMul, Nat.reduceLT, Nat.one_ne_zero, eq_self, not_true_eq_false, not_false_eq_true, and_self, h0]
        exact hQ
    · have e : pstuck (gσ g) = false := by
        cases hs : pstuck (gσ g) with
        | false => rfl
        | true => exact absurd (hst.mp hs).2.1 h1
      rw [e] at hQ
      cases b9 with
      | true =>
        rw [Bool.toNat_true] at hQ ⊢
        simp (disch := (first | assumption | exact xnl_i _ | exact xnl_r _ | exact xnl_n | exact Bool.toNat_lt _ | exact hb _ | exact hb2 _ | omega | exact Nat.le_of_ble_eq_true rfl | rfl | decide)) only [pL_addsUp_368, pL_addsUp_370, pL_addsUp_372, pL_addsUp_375, pL_addsUp_377, pL_addsUp_380, pL_addsUp_382, pL_addsUp_385, pL_addsUp_386, pL_addsUp_389, pL_addsUp_390, nI_add, pk_mul, xn_sub, xn_and, xn_or, xn_xor, xn_shl, xn_shr, xn_lt, xn_le, xn_eq, xrf_some, xup_eq, xup_ne, xrow_eq, xrow_ne, Option.toList_some, Option.toList_none, List.singleton_append, List.nil_append, List.cons_append, xnl_n, xnl_i, xnl_r, Nat.zero_add, Nat.add_zero, ↓reduceIte, Nat.reduceEqDiff, Nat.reduceLeDiff, Nat.reduceAdd, Nat.reduceMul, Nat.reduceLT, Nat.one_ne_zero, eq_self, not_true_eq_false, not_false_eq_true, and_self, h0, h1]
        exact hQ
      | false =>
        rw [Bool.toNat_false] at hQ ⊢
        simp (disch := (first | assumption | exact xnl_i _ | exact xnl_r _ | exact xnl_n | exact Bool.toNat_lt _ | exact hb _ | exact hb2 _ | omega | exact Nat.le_of_ble_eq_true rfl | rfl | decide)) only [pL_addsUp_368, pL_addsUp_370, pL_addsUp_372, pL_addsUp_375, pL_addsUp_377, pL_addsUp_380, pL_addsUp_382, pL_addsUp_385, pL_addsUp_386, pL_addsUp_389, pL_addsUp_390, nI_add, pk_mul, xn_sub, xn_and, xn_or, xn_xor, xn_shl, xn_shr, xn_lt, xn_le, xn_eq, xrf_some, xup_eq, xup_ne, xrow_eq, xrow_ne, Option.toList_some, Option.toList_none, List.singleton_append, List.nil_append, List.cons_append, xnl_n, xnl_i, xnl_r, Nat.zero_add, Nat.add_zero, ↓reduceIte, Nat.reduceEqDiff, Nat.reduceLeDiff, Nat.reduceAdd, Nat.reduceMul, Nat.reduceLT, Nat.one_ne_zero, eq_self, not_true_eq_false, not_false_eq_true, and_self, h0, h1]
        exact hQ
theorem c_adds (hR : cRep S V x g) (hG : gG g) (ha : acc (gσ g)) (hQ : ∀ V', cRep S V' x g → tOut V V' x → Q (some (.int (nI 1))) S V') : xC E mL_addsUp [.ref x] S V Q := by
  have hx5 := hR.1.1
  show xX E mL_addsUp 0 [some (.ref x), none, none, none, none, none, none, none, none, none, none, none, none, none, none] [] S V Q
  simp (disch := (first | assumption | exact xnl_i _ | exact xnl_r _ | exact xnl_n | exact Bool.toNat_lt _ | exact hb _ | exact hb2 _ | omega | exact Nat.le_of_ble_eq_true rfl | rfl | decide)) only [pL_addsUp_0, pL_addsUp_1, nI_add, pk_mul, xn_sub, xn_and, xn_or, xn_xor, xn_shl, xn_shr, xn_lt, xn_le, xn_eq, xrf_some, xup_eq, xup_ne, xrow_eq, xrow_ne, Option.toList_some, Option.toList_none, List.singleton_append, List.nil_append, List.cons_append, xnl_n, xnl_i, xnl_r, Nat.zero_add, Nat.add_zero, ↓reduceIte, Nat.reduceEqDiff, Nat.reduceLeDiff, Nat.reduceAdd, Nat.reduceMul, Nat.reduceLT, Nat.one_ne_zero, eq_self, not_true_eq_false, not_false_eq_true, and_self]
  rw [pL_addsUp_2 hx5 (Nat.le_of_ble_eq_true rfl)]
  refine d_count (by decide) hR hG (fun V1 hR1 o1 => ?_)
  rw [pcountv_0]
  simp (disch := (first | assumption | exact xnl_i _ | exact xnl_r _ | exact xnl_n | exact Bool.toNat_lt _ | exact hb _ | exact hb2 _ | omega | exact Nat.le_of_ble_eq_true rfl | rfl | decide)) only [pL_addsUp_5, pL_addsUp_6, pL_addsUp_7, pL_addsUp_8, pL_addsUp_9, pL_addsUp_10, pL_addsUp_11, pL_addsUp_13, pL_addsUp_14, pL_addsUp_16, pL_addsUp_17, pL_addsUp_19, pL_addsUp_20, pL_addsUp_22, pL_addsUp_23, pL_addsUp_25, pL_addsUp_26, pL_addsUp_28, pL_addsUp_29, nI_add, pk_mul, xn_sub, xn_and, xn_or, xn_xor, xn_shl, xn_shr, xn_lt, xn_le, xn_eq, xrf_some, xup_eq, xup_ne, xrow_eq, xrow_ne, Option.toList_some, Option.toList_none, List.singleton_append, List.nil_append, List.cons_append, xnl_n, xnl_i, xnl_r, Nat.zero_add, Nat.add_zero, ↓reduceIte, Nat.reduceEqDiff, Nat.reduceLeDiff, Nat.reduceAdd, Nat.reduceMul, Nat.reduceLT, Nat.one_ne_zero, eq_self, not_true_eq_false, not_false_eq_true, and_self]
  refine u_loop hG ha 8 0 V1 false false none none none none rfl hR1 (fun j hj => by omega) ⟨fun z => (by cases z), fun ⟨j, hj, _⟩ => by omega⟩ (fun V2 b8 b9 l11 l12 l13 l14 hR2 o2 h8 h9 => ?_)
  refine u_H1 (b8 := b8) h9 ?_
  rw [← ha.2]
  simp (disch := (first | assumption | exact xnl_i _ | exact xnl_r _ | exact xnl_n | exact Bool.toNat_lt _ | exact hb _ | exact hb2 _ | omega | exact Nat.le_of_ble_eq_true rfl | rfl | decide)) only [pL_addsUp_392, pL_addsUp_393, pL_addsUp_394, pL_addsUp_397, pL_addsUp_398, pL_addsUp_399, nI_add, pk_mul, xn_sub, xn_and, xn_or, xn_xor, xn_shl, xn_shr, xn_lt, xn_le, xn_eq, xrf_some, xup_eq, xup_ne, xrow_eq, xrow_ne, Option.toList_some, Option.toList_none, List.singleton_append, List.nil_append, List.cons_append, xnl_n, xnl_i, xnl_r, Nat.zero_add, Nat.add_zero, ↓reduceIte, Nat.reduceEqDiff, Nat.reduceLeDiff, Nat.reduceAdd, Nat.reduceMul, Nat.reduceLT, Nat.one_ne_zero, eq_self, not_true_eq_false, not_false_eq_true, and_self]
  rw [pL_addsUp_401 hx5 (Nat.le_of_ble_eq_true rfl)]
  refine d_count (by decide) hR2 hG (fun V3 hR3 o3 => ?_)
  rw [pcountv_6]
  simp (disch := (first | assumption | exact xnl_i _ | exact xnl_r _ | exact xnl_n | exact Bool.toNat_lt _ | exact hb _ | exact hb2 _ | omega | exact Nat.le_of_ble_eq_true rfl | rfl | decide)) only [pL_addsUp_404, pL_addsUp_407, pL_addsUp_409, pL_addsUp_410, nI_add, pk_mul, xn_sub, xn_and, xn_or, xn_xor, xn_shl, xn_shr, xn_lt, xn_le, xn_eq, xrf_some, xup_eq, xup_ne, xrow_eq, xrow_ne, Option.toList_some, Option.toList_none, List.singleton_append, List.nil_append, List.cons_append, xnl_n, xnl_i, xnl_r, Nat.zero_add, Nat.add_zero, ↓reduceIte, Nat.reduceEqDiff, Nat.reduceLeDiff, Nat.reduceAdd, Nat.reduceMul, Nat.reduceLT, Nat.one_ne_zero, eq_self, not_true_eq_false, not_false_eq_true, and_self]
  rw [pL_addsUp_411 hx5 (Nat.le_of_ble_eq_true rfl)]
  refine d_count (by decide) hR3 hG (fun V4 hR4 o4 => ?_)
  rw [pcountv_5]
  simp (disch := (first | assumption | exact xnl_i _ | exact xnl_r _ | exact xnl_n | exact Bool.toNat_lt _ | exact hb _ | exact hb2 _ | omega | exact Nat.le_of_ble_eq_true rfl | rfl | decide)) only [pL_addsUp_414, pL_addsUp_417, pL_addsUp_419, pL_addsUp_420, nI_add, pk_mul, xn_sub, xn_and, xn_or, xn_xor, xn_shl, xn_shr, xn_lt, xn_le, xn_eq, xrf_some, xup_eq, xup_ne, xrow_eq, xrow_ne, Option.toList_some, Option.toList_none, List.singleton_append, List.nil_append, List.cons_append, xnl_n, xnl_i, xnl_r, Nat.zero_add, Nat.add_zero, ↓reduceIte, Nat.reduceEqDiff, Nat.reduceLeDiff, Nat.reduceAdd, Nat.reduceMul, Nat.reduceLT, Nat.one_ne_zero, eq_self, not_true_eq_false, not_false_eq_true, and_self]
  rw [pL_addsUp_421 hx5 (Nat.le_of_ble_eq_true rfl)]
  refine d_count (by decide) hR4 hG (fun V5 hR5 o5 => ?_)
  rw [pcountv_1]
  simp (disch := (first | assumption | exact xnl_i _ | exact xnl_r _ | exact xnl_n | exact Bool.toNat_lt _ | exact hb _ | exact hb2 _ | omega | exact Nat.le_of_ble_eq_true rfl | rfl | decide)) only [pL_addsUp_424, pL_addsUp_427, pL_addsUp_429, pL_addsUp_430, nI_add, pk_mul, xn_sub, xn_and, xn_or, xn_xor, xn_shl, xn_shr, xn_lt, xn_le, xn_eq, xrf_some, xup_eq, xup_ne, xrow_eq, xrow_ne, Option.toList_some, Option.toList_none, List.singleton_append, List.nil_append, List.cons_append, xnl_n, xnl_i, xnl_r, Nat.zero_add, Nat.add_zero, ↓reduceIte, Nat.reduceEqDiff, Nat.reduceLeDiff, Nat.reduceAdd, Nat.reduceMul, Nat.reduceLT, Nat.one_ne_zero, eq_self, not_true_eq_false, not_false_eq_true, and_self]
  rw [pL_addsUp_431 hx5 (Nat.le_of_ble_eq_true rfl)]
  refine d_count (by decide) hR5 hG (fun V6 hR6 o6 => ?_)
  rw [pcountv_2]
  simp (disch := (first | assumption | exact xnl_i _ | exact xnl_r _ | exact xnl_n | exact Bool.toNat_lt _ | exact hb _ | exact hb2 _ | omega | exact Nat.le_of_ble_eq_true rfl | rfl | decide)) only [pL_addsUp_434, pL_addsUp_437, pL_addsUp_439, pL_addsUp_440, nI_add, pk_mul, xn_sub, xn_and, xn_or, xn_xor, xn_shl, xn_shr, xn_lt, xn_le, xn_eq, xrf_some, xup_eq, xup_ne, xrow_eq, xrow_ne, Option.toList_some, Option.toList_none, List.singleton_append, List.nil_append, List.cons_append, xnl_n, xnl_i, xnl_r, Nat.zero_add, Nat.add_zero, ↓reduceIte, Nat.reduceEqDiff, Nat.reduceLeDiff, Nat.reduceAdd, Nat.reduceMul, Nat.reduceLT, Nat.one_ne_zero, eq_self, not_true_eq_false, not_false_eq_true, and_self]
  rw [pL_addsUp_441 hx5 (Nat.le_of_ble_eq_true rfl)]
  refine d_count (by decide) hR6 hG (fun V7 hR7 o7 => ?_)
  rw [pcountv_3]
  have e3 : bm (fun c => (pfar (gσ g) c).testBit c) 8 = prings (gσ g) := rfl
  rw [e3]
  simp (disch := (first | assumption | exact xnl_i _ | exact xnl_r _ | exact xnl_n | exact Bool.toNat_lt _ | exact hb _ | exact hb2 _ | omega | exact Nat.le_of_ble_eq_true rfl | rfl | decide)) only [pL_addsUp_444, pL_addsUp_447, pL_addsUp_449, pL_addsUp_450, nI_add, pk_mul, xn_sub, xn_and, xn_or, xn_xor, xn_shl, xn_shr, xn_lt, xn_le, xn_eq, xrf_some, xup_eq, xup_ne, xrow_eq, xrow_ne, Option.toList_some, Option.toList_none, List.singleton_append, List.nil_append, List.cons_append, xnl_n, xnl_i, xnl_r, Nat.zero_add, Nat.add_zero, ↓reduceIte, Nat.reduceEqDiff, Nat.reduceLeDiff, Nat.reduceAdd, Nat.reduceMul, Nat.reduceLT, Nat.one_ne_zero, eq_self, not_true_eq_false, not_false_eq_true, and_self]
  rw [pL_addsUp_451 hx5 (Nat.le_of_ble_eq_true rfl)]
  refine d_count (by decide) hR7 hG (fun V8 hR8 o8 => ?_)
  rw [pcountv_4]
  have fin := hQ V8 hR8 (tOut_t o1 (tOut_t o2 (tOut_t o3 (tOut_t o4 (tOut_t o5 (tOut_t o6 (tOut_t o7 o8)))))))
  cases hs : pstuck (gσ g) with
  | true =>
    have hb8 : b8 = true := by
      obtain ⟨j, hj, h2, h3⟩ := stuck_hope (gs_wf hG.1) hs
      exact h8 j hj ⟨h2, h3⟩
    subst hb8
    simp (disch := (first | assumption | exact xnl_i _ | exact xnl_r _ | exact xnl_n | exact Bool.toNat_lt _ | exact hb _ | exact hb2 _ | omega | exact Nat.le_of_ble_eq_true rfl | rfl | decide)) only [pL_addsUp_454, pL_addsUp_455, pL_addsUp_458, pL_addsUp_459, pL_addsUp_462, pL_addsUp_463, pL_addsUp_466, pL_addsUp_468, pL_addsUp_471, pL_addsUp_473, pL_addsUp_476, pL_addsUp_477, pL_addsUp_480, pL_addsUp_481, nI_add, pk_mul, xn_sub, xn_and, xn_or, xn_xor, xn_shl, xn_shr, xn_lt, xn_le, xn_eq, xrf_some, xup_eq, xup_ne, xrow_eq, xrow_ne, Option.toList_some, Option.toList_none, List.singleton_append, List.nil_append, List.cons_append, xnl_n, xnl_i, xnl_r, Nat.zero_add, Nat.add_zero, ↓reduceIte, Nat.reduceEqDiff, Nat.reduceLeDiff, Nat.reduceAdd, Nat.reduceMul, Nat.reduceLT, Nat.one_ne_zero, eq_self, not_true_eq_false, not_false_eq_true, and_self, Bool.toNat_true]
    exact fin
  | false =>
    simp (disch := (first | assumption | exact xnl_i _ | exact xnl_r _ | exact xnl_n | exact Bool.toNat_lt _ | exact hb _ | exact hb2 _ | omega | exact Nat.le_of_ble_eq_true rfl | rfl | decide)) only [pL_addsUp_454, pL_addsUp_455, pL_addsUp_458, pL_addsUp_459, pL_addsUp_462, pL_addsUp_463, pL_addsUp_466, pL_addsUp_468, pL_addsUp_471, pL_addsUp_473, pL_addsUp_476, pL_addsUp_477, pL_addsUp_480, pL_addsUp_481, nI_add, pk_mul, xn_sub, xn_and, xn_or, xn_xor, xn_shl, xn_shr, xn_lt, xn_le, xn_eq, xrf_some, xup_eq, xup_ne, xrow_eq, xrow_ne, Option.toList_some, Option.toList_none, List.singleton_append, List.nil_append, List.cons_append, xnl_n, xnl_i, xnl_r, Nat.zero_add, Nat.add_zero, ↓reduceIte, Nat.reduceEqDiff, Nat.reduceLeDiff, Nat.reduceAdd, Nat.reduceMul, Nat.reduceLT, Nat.one_ne_zero, eq_self, not_true_eq_false, not_false_eq_true, and_self, Bool.toNat_false, Nat.zero_ne_one]
    exact fin
end AD2
