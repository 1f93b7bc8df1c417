/-! ===== the law's addsUp: accounts, priorities, who waits ===== -/
theorem pofv_10 {σ : Nat → Nat} {c : Nat} : pofv σ c 10 = σ (62 * c + 10) := by simp [pofv]
theorem pofv_11 {σ : Nat → Nat} {c : Nat} : pofv σ c 11 = σ (62 * c + 11) := by simp [pofv]
theorem pofv_12 {σ : Nat → Nat} {c : Nat} : pofv σ c 12 = σ (62 * c + 12) := by simp [pofv]
theorem pofv_13 {σ : Nat → Nat} {c : Nat} : pofv σ c 13 = σ (62 * c + 13) := by simp [pofv]
def bad (σ : Nat → Nat) (j : Nat) : Prop := 2 < pst σ j ∧ (pwait σ j = 0 ∨ (pfar σ j).testBit j = true ∨ ∃ e, e < 8 ∧ (pwait σ j).testBit e = true ∧ pst σ e = 0)
section ADS
variable {E : Nat × Nat × Nat} {S : xSh} {V : xV} {Q : Option Value → xSh → xV → Prop} {x k : Nat} {g : pG} {l4v l6v l7v l9v l10v : Int32} {l1 l2 l3 l4 l5 l6 l7 l8 l9 l11 l12 l13 l14 : Option Value}
theorem u_A (hR : cRep S V x g) (hG : gG g) (ha : acc (gσ g)) (hk : k < 8) (hQ : ∀ V', cRep S V' x g → tOut V V' x → xX E mL_addsUp 138 [some (.ref x), some (.int (nI (gσ g 496))), l2, l3, l4, l5, l6, l7, l8, l9, some (.int (nI k)), some (.int (nI (pst (gσ g) k))), some (.int (nI (pwait (gσ g) k))), l13, l14] [] S V' Q) : xX E mL_addsUp 38 [some (.ref x), some (.int (nI (gσ g 496))), l2, l3, l4, l5, l6, l7, l8, l9, some (.int (nI k)), l11, l12, l13, l14] [] S V Q := by
  have hb := wf_b (gs_wf hG.1); have hb2 := pst_b (gσ g); have hx5 := hR.1.1
  have hw8 := pwait_lt (gs_wf hG.1) hk
  have hpl := plent_lt hb k
  have h10 := ha.1 k hk
  have hge : ¬ plent (gσ g) k < gσ g (62 * k + 3) := Nat.not_lt.mpr plent_ge
  have h4 : ¬ 4 < gσ g (62 * k + 4) := by have := (hG.1.1.2.2.1 k hk).2.2.2.2.1; omega
  have h496 := hG.1.1.1 496
  simp (disch := (first | assumption | exact xnl_i _ | exact xnl_r _ | exact xnl_n | exact Bool.toNat_lt _ | exact hb _ | exact hb2 _ | omega | exact Nat.le_of_ble_eq_true rfl | rfl | decide)) only [pL_addsUp_38, pL_addsUp_39, pL_addsUp_41, nI_add, pk_mul, xn_sub, xn_and, xn_or, xn_xor, xn_shl, xn_shr, xn_lt, xn_le, xn_eq, xrf_some, xup_eq, xup_ne, xrow_eq, xrow_ne, Option.toList_some, Option.toList_none, List.singleton_append, List.nil_append, List.cons_append, xnl_n, xnl_i, xnl_r, Nat.zero_add, Nat.add_zero, ↓reduceIte, Nat.reduceEqDiff, Nat.reduceLeDiff, Nat.reduceAdd, Nat.reduceMul, Nat.reduceLT, Nat.one_ne_zero, eq_self, not_true_eq_false, not_false_eq_true, and_self]
  rw [pL_addsUp_43 hx5 (Nat.le_of_ble_eq_true rfl)]
  refine d_of hk (by decide) hR hG (fun V1 hR1 o1 => ?_)
  rw [pofv_7]
  simp (disch := (first | assumption | exact xnl_i _ | exact xnl_r _ | exact xnl_n | exact Bool.toNat_lt _ | exact hb _ | exact hb2 _ | omega | exact Nat.le_of_ble_eq_true rfl | rfl | decide)) only [pL_addsUp_46, pL_addsUp_48, pL_addsUp_49, pL_addsUp_51, nI_add, pk_mul, xn_sub, xn_and, xn_or, xn_xor, xn_shl, xn_shr, xn_lt, xn_le, xn_eq, xrf_some, xup_eq, xup_ne, xrow_eq, xrow_ne, Option.toList_some, Option.toList_none, List.singleton_append, List.nil_append, List.cons_append, xnl_n, xnl_i, xnl_r, Nat.zero_add, Nat.add_zero, ↓reduceIte, Nat.reduceEqDiff, Nat.reduceLeDiff, Nat.reduceAdd, Nat.reduceMul, Nat.reduceLT, Nat.one_ne_zero, eq_self, not_true_eq_false, not_false_eq_true, and_self]
  rw [pL_addsUp_53 hx5 (Nat.le_of_ble_eq_true rfl)]
  refine d_of hk (by decide) hR1 hG (fun V2 hR2 o2 => ?_)
  rw [pofv_8]
  simp (disch := (first | assumption | exact xnl_i _ | exact xnl_r _ | exact xnl_n | exact Bool.toNat_lt _ | exact hb _ | exact hb2 _ | omega | exact Nat.le_of_ble_eq_true rfl | rfl | decide)) only [pL_addsUp_56, pL_addsUp_58, pL_addsUp_59, pL_addsUp_61, nI_add, pk_mul, xn_sub, xn_and, xn_or, xn_xor, xn_shl, xn_shr, xn_lt, xn_le, xn_eq, xrf_some, xup_eq, xup_ne, xrow_eq, xrow_ne, Option.toList_some, Option.toList_none, List.singleton_append, List.nil_append, List.cons_append, xnl_n, xnl_i, xnl_r, Nat.zero_add, Nat.add_zero, ↓reduceIte, Nat.reduceEqDiff, Nat.reduceLeDiff, Nat.reduceAdd, Nat.reduceMul, Nat.reduceLT, Nat.one_ne_zero, eq_self, not_true_eq_false, not_false_eq_true, and_self]
  rw [pL_addsUp_63 hx5 (Nat.le_of_ble_eq_true rfl)]
  refine d_of hk (by decide) hR2 hG (fun V3 hR3 o3 => ?_)
  rw [pofv_10]
  simp (disch := (first | assumption | exact xnl_i _ | exact xnl_r _ | exact xnl_n | exact Bool.toNat_lt _ | exact hb _ | exact hb2 _ | omega | exact Nat.le_of_ble_eq_true rfl | rfl | decide)) only [pL_addsUp_66, pL_addsUp_67, pL_addsUp_69, nI_add, pk_mul, xn_sub, xn_and, xn_or, xn_xor, xn_shl, xn_shr, xn_lt, xn_le, xn_eq, xrf_some, xup_eq, xup_ne, xrow_eq, xrow_ne, Option.toList_some, Option.toList_none, List.singleton_append, List.nil_append, List.cons_append, xnl_n, xnl_i, xnl_r, Nat.zero_add, Nat.add_zero, ↓reduceIte, Nat.reduceEqDiff, Nat.reduceLeDiff, Nat.reduceAdd, Nat.reduceMul, Nat.reduceLT, Nat.one_ne_zero, eq_self, not_true_eq_false, not_false_eq_true, and_self]
  rw [pL_addsUp_71 hx5 (Nat.le_of_ble_eq_true rfl)]
  refine d_of hk (by decide) hR3 hG (fun V4 hR4 o4 => ?_)
  rw [pofv_12]
  simp (disch := (first | assumption | exact xnl_i _ | exact xnl_r _ | exact xnl_n | exact Bool.toNat_lt _ | exact hb _ | exact hb2 _ | omega | exact Nat.le_of_ble_eq_true rfl | rfl | decide)) only [pL_addsUp_74, pL_addsUp_75, pL_addsUp_76, pL_addsUp_78, nI_add, pk_mul, xn_sub, xn_and, xn_or, xn_xor, xn_shl, xn_shr, xn_lt, xn_le, xn_eq, xrf_some, xup_eq, xup_ne, xrow_eq, xrow_ne, Option.toList_some, Option.toList_none, List.singleton_append, List.nil_append, List.cons_append, xnl_n, xnl_i, xnl_r, Nat.zero_add, Nat.add_zero, ↓reduceIte, Nat.reduceEqDiff, Nat.reduceLeDiff, Nat.reduceAdd, Nat.reduceMul, Nat.reduceLT, Nat.one_ne_zero, eq_self, not_true_eq_false, not_false_eq_true, and_self]
  rw [pL_addsUp_80 hx5 (Nat.le_of_ble_eq_true rfl)]
  refine d_of hk (by decide) hR4 hG (fun V5 hR5 o5 => ?_)
  rw [pofv_13]
  simp (disch := (first | assumption | exact xnl_i _ | exact xnl_r _ | exact xnl_n | exact Bool.toNat_lt _ | exact hb _ | exact hb2 _ | omega | exact Nat.le_of_ble_eq_true rfl | rfl | decide)) only [pL_addsUp_83, pL_addsUp_84, pL_addsUp_85, pL_addsUp_87, pL_addsUp_88, pL_addsUp_90, pL_addsUp_91, pL_addsUp_93, pL_addsUp_94, pL_addsUp_97, pL_addsUp_98, pL_addsUp_100, nI_add, pk_mul, xn_sub, xn_and, xn_or, xn_xor, xn_shl, xn_shr, xn_lt, xn_le, xn_eq, xrf_some, xup_eq, xup_ne, xrow_eq, xrow_ne, Option.toList_some, Option.toList_none, List.singleton_append, List.nil_append, List.cons_append, xnl_n, xnl_i, xnl_r, Nat.zero_add, Nat.add_zero, ↓reduceIte, Nat.reduceEqDiff, Nat.reduceLeDiff, Nat.reduceAdd, Nat.reduceMul, Nat.reduceLT, Nat.one_ne_zero, eq_self, not_true_eq_false, not_false_eq_true, and_self, h10]
  rw [pL_addsUp_101 hx5 (Nat.le_of_ble_eq_true rfl)]
  refine d_of hk (by decide) hR5 hG (fun V6 hR6 o6 => ?_)
  rw [pofv_4]
  simp (disch := (first | assumption | exact xnl_i _ | exact xnl_r _ | exact xnl_n | exact Bool.toNat_lt _ | exact hb _ | exact hb2 _ | omega | exact Nat.le_of_ble_eq_true rfl | rfl | decide)) only [pL_addsUp_104, pL_addsUp_105, pL_addsUp_107, nI_add, pk_mul, xn_sub, xn_and, xn_or, xn_xor, xn_shl, xn_shr, xn_lt, xn_le, xn_eq, xrf_some, xup_eq, xup_ne, xrow_eq, xrow_ne, Option.toList_some, Option.toList_none, List.singleton_append, List.nil_append, List.cons_append, xnl_n, xnl_i, xnl_r, Nat.zero_add, Nat.add_zero, ↓reduceIte, Nat.reduceEqDiff, Nat.reduceLeDiff, Nat.reduceAdd, Nat.reduceMul, Nat.reduceLT, Nat.one_ne_zero, eq_self, not_true_eq_false, not_false_eq_true, and_self]
  rw [pL_addsUp_108 hx5 (Nat.le_of_ble_eq_true rfl)]
  refine d_of hk (by decide) hR6 hG (fun V7 hR7 o7 => ?_)
  rw [pofv_3]
  simp (disch := (first | assumption | exact xnl_i _ | exact xnl_r _ | exact xnl_n | exact Bool.toNat_lt _ | exact hb _ | exact hb2 _ | omega | exact Nat.le_of_ble_eq_true rfl | rfl | decide)) only [pL_addsUp_111, pL_addsUp_114, pL_addsUp_115, pL_addsUp_117, nI_add, pk_mul, xn_sub, xn_and, xn_or, xn_xor, xn_shl, xn_shr, xn_lt, xn_le, xn_eq, xrf_some, xup_eq, xup_ne, xrow_eq, xrow_ne, Option.toList_some, Option.toList_none, List.singleton_append, List.nil_append, List.cons_append, xnl_n, xnl_i, xnl_r, Nat.zero_add, Nat.add_zero, ↓reduceIte, Nat.reduceEqDiff, Nat.reduceLeDiff, Nat.reduceAdd, Nat.reduceMul, Nat.reduceLT, Nat.one_ne_zero, eq_self, not_true_eq_false, not_false_eq_true, and_self, hge]
  rw [pL_addsUp_118 hx5 (Nat.le_of_ble_eq_true rfl)]
  refine d_of hk (by decide) hR7 hG (fun V8 hR8 o8 => ?_)
  rw [pofv_5]
  have fin := hQ V8 hR8 (tOut_t o1 (tOut_t o2 (tOut_t o3 (tOut_t o4 (tOut_t o5 (tOut_t o6 (tOut_t o7 o8)))))))
  by_cases h3 : 3 ≤ pst (gσ g) k
  · simp (disch := (first | assumption | exact xnl_i _ | exact xnl_r _ | exact xnl_n | exact Bool.toNat_lt _ | exact hb _ | exact hb2 _ | omega | exact Nat.le_of_ble_eq_true rfl | rfl | decide)) only [pL_addsUp_121, pL_addsUp_122, pL_addsUp_125, pL_addsUp_127, pL_addsUp_128, pL_addsUp_131, pL_addsUp_133, nI_add, pk_mul, xn_sub, xn_and, xn_or, xn_xor, xn_shl, xn_shr, xn_lt, xn_le, xn_eq, xrf_some, xup_eq, xup_ne, xrow_eq, xrow_ne, Option.toList_some, Option.toList_none, List.singleton_append, List.nil_append, List.cons_append, xnl_n, xnl_i, xnl_r, Nat.zero_add, Nat.add_zero, ↓reduceIte, Nat.reduceEqDiff, Nat.reduceLeDiff, Nat.reduceAdd, Nat.reduceMul, Nat.reduceLT, Nat.one_ne_zero, eq_self, not_true_eq_false, not_false_eq_true, and_self, h4, h3]
    exact fin
  · have h0 : pwait (gσ g) k = 0 := pwait_lo (by omega)
    rw [h0] at fin ⊢
    simp (disch := (first | assumption | exact xnl_i _ | exact xnl_r _ | exact xnl_n | exact Bool.toNat_lt _ | exact hb _ | exact hb2 _ | omega | exact Nat.le_of_ble_eq_true rfl | rfl | decide)) only [pL_addsUp_121, pL_addsUp_122, pL_addsUp_125, pL_addsUp_127, pL_addsUp_128, pL_addsUp_131, pL_addsUp_133, nI_add, pk_mul, xn_sub, xn_and, xn_or, xn_xor, xn_shl, xn_shr, xn_lt, xn_le, xn_eq, xrf_some, xup_eq, xup_ne, xrow_eq, xrow_ne, Option.toList_some, Option.toList_none, List.singleton_append, List.nil_append, List.cons_append, xnl_n, xnl_i, xnl_r, Nat.zero_add, Nat.add_zero, ↓reduceIte, Nat.reduceEqDiff, Nat.reduceLeDiff, Nat.reduceAdd, Nat.reduceMul, Nat.reduceLT, Nat.one_ne_zero, eq_self, not_true_eq_false, not_false_eq_true, and_self, h4, h3]
    exact fin
theorem u_B (hR : cRep S V x g) (hG : gG g) (hk : k < 8) (hQ : ∀ V', cRep S V' x g → tOut V V' x → xX E mL_addsUp 173 [some (.ref x), some (.int (nI (gσ g 496))), some (.int (nI (psum (gσ g) 12 (k + 1)))), some (.int (nI (psum (gσ g) 11 (k + 1)))), some (.int (nI (psum (gσ g) 13 (k + 1)))), l5, l6, l7, l8, l9, some (.int (nI k)), l11, l12, l13, l14] [] S V' Q) : xX E mL_addsUp 138 [some (.ref x), some (.int (nI (gσ g 496))), some (.int (nI (psum (gσ g) 12 k))), some (.int (nI (psum (gσ g) 11 k))), some (.int (nI (psum (gσ g) 13 k))), l5, l6, l7, l8, l9, some (.int (nI k)), l11, l12, l13, l14] [] S V Q := by
  have hb := wf_b (gs_wf hG.1); have hb2 := pst_b (gσ g); have hx5 := hR.1.1
  simp (disch := (first | assumption | exact xnl_i _ | exact xnl_r _ | exact xnl_n | exact Bool.toNat_lt _ | exact hb _ | exact hb2 _ | omega | exact Nat.le_of_ble_eq_true rfl | rfl | decide)) only [pL_addsUp_138, pL_addsUp_139, pL_addsUp_140, pL_addsUp_142, nI_add, pk_mul, xn_sub, xn_and, xn_or, xn_xor, xn_shl, xn_shr, xn_lt, xn_le, xn_eq, xrf_some, xup_eq, xup_ne, xrow_eq, xrow_ne, Option.toList_some, Option.toList_none, List.singleton_append, List.nil_append, List.cons_append, xnl_n, xnl_i, xnl_r, Nat.zero_add, Nat.add_zero, ↓reduceIte, Nat.reduceEqDiff, Nat.reduceLeDiff, Nat.reduceAdd, Nat.reduceMul, Nat.reduceLT, Nat.one_ne_zero, eq_self, not_true_eq_false, not_false_eq_true, and_self]
  rw [pL_addsUp_144 hx5 (Nat.le_of_ble_eq_true rfl)]
  refine d_of hk (by decide) hR hG (fun V1 hR1 o1 => ?_)
  rw [pofv_12]
  simp (disch := (first | assumption | exact xnl_i _ | exact xnl_r _ | exact xnl_n | exact Bool.toNat_lt _ | exact hb _ | exact hb2 _ | omega | exact Nat.le_of_ble_eq_true rfl | rfl | decide)) only [pL_addsUp_147, pL_addsUp_148, pL_addsUp_149, pL_addsUp_150, pL_addsUp_151, pL_addsUp_153, nI_add, pk_mul, xn_sub, xn_and, xn_or, xn_xor, xn_shl, xn_shr, xn_lt, xn_le, xn_eq, xrf_some, xup_eq, xup_ne, xrow_eq, xrow_ne, Option.toList_some, Option.toList_none, List.singleton_append, List.nil_append, List.cons_append, xnl_n, xnl_i, xnl_r, Nat.zero_add, Nat.add_zero, ↓reduceIte, Nat.reduceEqDiff, Nat.reduceLeDiff, Nat.reduceAdd, Nat.reduceMul, Nat.reduceLT, Nat.one_ne_zero, eq_self, not_true_eq_false, not_false_eq_true, and_self]
  rw [pL_addsUp_155 hx5 (Nat.le_of_ble_eq_true rfl)]
  refine d_of hk (by decide) hR1 hG (fun V2 hR2 o2 => ?_)
  rw [pofv_11]
  simp (disch := (first | assumption | exact xnl_i _ | exact xnl_r _ | exact xnl_n | exact Bool.toNat_lt _ | exact hb _ | exact hb2 _ | omega | exact Nat.le_of_ble_eq_true rfl | rfl | decide)) only [pL_addsUp_158, pL_addsUp_159, pL_addsUp_160, pL_addsUp_162, pL_addsUp_163, pL_addsUp_165, nI_add, pk_mul, xn_sub, xn_and, xn_or, xn_xor, xn_shl, xn_shr, xn_lt, xn_le, xn_eq, xrf_some, xup_eq, xup_ne, xrow_eq, xrow_ne, Option.toList_some, Option.toList_none, List.singleton_append, List.nil_append, List.cons_append, xnl_n, xnl_i, xnl_r, Nat.zero_add, Nat.add_zero, ↓reduceIte, Nat.reduceEqDiff, Nat.reduceLeDiff, Nat.reduceAdd, Nat.reduceMul, Nat.reduceLT, Nat.one_ne_zero, eq_self, not_true_eq_false, not_false_eq_true, and_self]
  rw [pL_addsUp_167 hx5 (Nat.le_of_ble_eq_true rfl)]
  refine d_of hk (by decide) hR2 hG (fun V3 hR3 o3 => ?_)
  rw [pofv_13]
  simp (disch := (first | assumption | exact xnl_i _ | exact xnl_r _ | exact xnl_n | exact Bool.toNat_lt _ | exact hb _ | exact hb2 _ | omega | exact Nat.le_of_ble_eq_true rfl | rfl | decide)) only [pL_addsUp_170, pL_addsUp_171, nI_add, pk_mul, xn_sub, xn_and, xn_or, xn_xor, xn_shl, xn_shr, xn_lt, xn_le, xn_eq, xrf_some, xup_eq, xup_ne, xrow_eq, xrow_ne, Option.toList_some, Option.toList_none, List.singleton_append, List.nil_append, List.cons_append, xnl_n, xnl_i, xnl_r, Nat.zero_add, Nat.add_zero, ↓reduceIte, Nat.reduceEqDiff, Nat.reduceLeDiff, Nat.reduceAdd, Nat.reduceMul, Nat.reduceLT, Nat.one_ne_zero, eq_self, not_true_eq_false, not_false_eq_true, and_self]
  exact hQ V3 hR3 (tOut_t o1 (tOut_t o2 o3))
theorem u_C (hk : k < 8) (hQ : xX E mL_addsUp 207 [some (.ref x), l1, l2, l3, some (.int l4v), some (.int (nI (pcnt (pin (gσ g) 0) (k + 1)))), some (.int (nI (bm (fun c => decide (pst (gσ g) c = 1)) (k + 1)))), l7, l8, l9, some (.int (nI k)), some (.int (nI (pst (gσ g) k))), l12, l13, l14] [] S V Q) : xX E mL_addsUp 173 [some (.ref x), l1, l2, l3, some (.int l4v), some (.int (nI (pcnt (pin (gσ g) 0) k))), some (.int (nI (bm (fun c => decide (pst (gσ g) c = 1)) k))), l7, l8, l9, some (.int (nI k)), some (.int (nI (pst (gσ g) k))), l12, l13, l14] [] S V Q := by
  have hb2 := pst_b (gσ g)
  have h231 : 1 * 2 ^ k < 4294967296 := by
    have : 2 ^ k ≤ 2 ^ 8 := Nat.pow_le_pow_right (by decide) (by omega)
    omega
  have hpb := pin_bit (gσ g) 0 k
  rw [bm_s] at hQ
  unfold pcnt at hQ
  by_cases h0 : pst (gσ g) k = 0
  · have h1 : ¬ pst (gσ g) k = 1 := by omega
    have hpt : (pin (gσ g) 0).testBit k = true := by rw [hpb]; simp [hk, h0]
    simp only [hpt, h0, if_true, decide_false, Bool.false_eq_true, if_false, Nat.or_zero, Nat.zero_ne_one] at hQ
    simp (disch := (first | assumption | exact xnl_i _ | exact xnl_r _ | exact xnl_n | exact Bool.toNat_lt _ | exact hb _ | exact hb2 _ | omega | exact Nat.le_of_ble_eq_true rfl | rfl | decide)) only [pL_addsUp_173, pL_addsUp_175, pL_addsUp_177, pL_addsUp_180, pL_addsUp_181, pL_addsUp_184, pL_addsUp_185, pL_addsUp_186, pL_addsUp_188, pL_addsUp_190, pL_addsUp_192, pL_addsUp_193, pL_addsUp_196, pL_addsUp_197, pL_addsUp_199, pL_addsUp_200, pL_addsUp_203, pL_addsUp_204, pL_addsUp_205, nI_add, pk_mul, xn_sub, xn_and, xn_or, xn_xor, xn_shl, xn_shr, xn_lt, xn_le, xn_eq, xrf_some, xup_eq, xup_ne, xrow_eq, xrow_ne, Option.toList_some, Option.toList_none, List.singleton_append, List.nil_append, List.cons_append, xnl_n, xnl_i, xnl_r, Nat.zero_add, Nat.add_zero, ↓reduceIte, Nat.reduceEqDiff, Nat.reduceLeDiff, Nat.reduceAdd, Nat.reduceMul, Nat.reduceLT, Nat.one_ne_zero, eq_self, not_true_eq_false, not_false_eq_true, and_self, h0, Nat.or_zero, Nat.zero_ne_one]
    exact hQ
  · have hpt : ¬ (pin (gσ g) 0).testBit k = true := by rw [hpb]; simp [h0]
    by_cases h1 : pst (gσ g) k = 1
    · simp only [hpt, h1, if_true, decide_true, Bool.false_eq_true, if_false, Nat.add_zero] at hQ
      simp (disch := (first | assumption | exact xnl_i _ | exact xnl_r _ | exact xnl_n | exact Bool.toNat_lt _ | exact hb _ | exact hb2 _ | omega | exact Nat.le_of_ble_eq_true rfl | rfl | decide)) only [pL_addsUp_173, pL_addsUp_175, pL_addsUp_177, pL_addsUp_180, pL_addsUp_181, pL_addsUp_184, pL_addsUp_185, pL_addsUp_186, pL_addsUp_188, pL_addsUp_190, pL_addsUp_192, pL_addsUp_193, pL_addsUp_196, pL_addsUp_197, pL_addsUp_199, pL_addsUp_200, pL_addsUp_203, pL_addsUp_204, pL_addsUp_205, nI_add, pk_mul, xn_sub, xn_and, xn_or, xn_xor, xn_shl, xn_shr, xn_lt, xn_le, xn_eq, xrf_some, xup_eq, xup_ne, xrow_eq, xrow_ne, Option.toList_some, Option.toList_none, List.singleton_append, List.nil_append, List.cons_append, xnl_n, xnl_i, xnl_r, Nat.zero_add, Nat.add_zero, ↓reduceIte, Nat.reduceEqDiff, Nat.reduceLeDiff, Nat.reduceAdd, Nat.reduceMul, Nat.reduceLT, Nat.one_ne_zero, eq_self, not_true_eq_false, not_false_eq_true, and_self, h1, Nat.one_mul]
      exact hQ
    · simp only [hpt, h1, if_true, decide_false, Bool.false_eq_true, if_false, Nat.or_zero, Nat.add_zero] at hQ
      simp (disch := (first | assumption | exact xnl_i _ | exact xnl_r _ | exact xnl_n | exact Bool.toNat_lt _ | exact hb _ | exact hb2 _ | omega | exact Nat.le_of_ble_eq_true rfl | rfl | decide)) only [pL_addsUp_173, pL_addsUp_175, pL_addsUp_177, pL_addsUp_180, pL_addsUp_181, pL_addsUp_184, pL_addsUp_185, pL_addsUp_186, pL_addsUp_188, pL_addsUp_190, pL_addsUp_192, pL_addsUp_193, pL_addsUp_196, pL_addsUp_197, pL_addsUp_199, pL_addsUp_200, pL_addsUp_203, pL_addsUp_204, pL_addsUp_205, nI_add, pk_mul, xn_sub, xn_and, xn_or, xn_xor, xn_shl, xn_shr, xn_lt, xn_le, xn_eq, xrf_some, xup_eq, xup_ne, xrow_eq, xrow_ne, Option.toList_some, Option.toList_none, List.singleton_append, List.nil_append, List.cons_append, xnl_n, xnl_i, xnl_r, Nat.zero_add, Nat.add_zero, ↓reduceIte, Nat.reduceEqDiff, Nat.reduceLeDiff, Nat.reduceAdd, Nat.reduceMul, Nat.reduceLT, Nat.one_ne_zero, eq_self, not_true_eq_false, not_false_eq_true, and_self, h0, h1, Nat.or_zero]
      exact hQ
theorem u_D (hR : cRep S V x g) (hG : gG g) (hk : k < 8) (hQ : ∀ V', cRep S V' x g → tOut V V' x → xX E mL_addsUp 223 [some (.ref x), l1, l2, l3, l4, l5, some (.int l6v), some (.int (nI (bm (fun c => (pfar (gσ g) c).testBit c) (k + 1)))), l8, l9, some (.int (nI k)), l11, l12, l13, l14] [] S V' Q) : xX E mL_addsUp 207 [some (.ref x), l1, l2, l3, l4, l5, some (.int l6v), some (.int (nI (bm (fun c => (pfar (gσ g) c).testBit c) k))), l8, l9, some (.int (nI k)), l11, l12, l13, l14] [] S V Q := by
  have hb := wf_b (gs_wf hG.1); have hb2 := pst_b (gσ g); have hx5 := hR.1.1
  have h231 : 1 * 2 ^ k < 4294967296 := by
    have : 2 ^ k ≤ 2 ^ 8 := Nat.pow_le_pow_right (by decide) (by omega)
    omega
  have h230 : 0 * 2 ^ k < 4294967296 := by rw [Nat.zero_mul]; decide
  simp (disch := (first | assumption | exact xnl_i _ | exact xnl_r _ | exact xnl_n | exact Bool.toNat_lt _ | exact hb _ | exact hb2 _ | omega | exact Nat.le_of_ble_eq_true rfl | rfl | decide)) only [pL_addsUp_207, pL_addsUp_209, pL_addsUp_210, pL_addsUp_212, nI_add, pk_mul, xn_sub, xn_and, xn_or, xn_xor, xn_shl, xn_shr, xn_lt, xn_le, xn_eq, xrf_some, xup_eq, xup_ne, xrow_eq, xrow_ne, Option.toList_some, Option.toList_none, List.singleton_append, List.nil_append, List.cons_append, xnl_n, xnl_i, xnl_r, Nat.zero_add, Nat.add_zero, ↓reduceIte, Nat.reduceEqDiff, Nat.reduceLeDiff, Nat.reduceAdd, Nat.reduceMul, Nat.reduceLT, Nat.one_ne_zero, eq_self, not_true_eq_false, not_false_eq_true, and_self]
  rw [pL_addsUp_214 hx5 (Nat.le_of_ble_eq_true rfl)]
  refine d_of hk (by decide) hR hG (fun V1 hR1 o1 => ?_)
  rw [pofv_9]
  have hq := hQ V1 hR1 o1
  rw [bm_s] at hq
  by_cases h : (pfar (gσ g) k).testBit k = true
  · rw [if_pos h] at hq ⊢
    simp (disch := (first | assumption | exact xnl_i _ | exact xnl_r _ | exact xnl_n | exact Bool.toNat_lt _ | exact hb _ | exact hb2 _ | omega | exact Nat.le_of_ble_eq_true rfl | rfl | decide)) only [pL_addsUp_217, pL_addsUp_219, pL_addsUp_220, pL_addsUp_221, nI_add, pk_mul, xn_sub, xn_and, xn_or, xn_xor, xn_shl, xn_shr, xn_lt, xn_le, xn_eq, xrf_some, xup_eq, xup_ne, xrow_eq, xrow_ne, Option.toList_some, Option.toList_none, List.singleton_append, List.nil_append, List.cons_append, xnl_n, xnl_i, xnl_r, Nat.zero_add, Nat.add_zero, ↓reduceIte, Nat.reduceEqDiff, Nat.reduceLeDiff, Nat.reduceAdd, Nat.reduceMul, Nat.reduceLT, Nat.one_ne_zero, eq_self, not_true_eq_false, not_false_eq_true, and_self, Nat.one_mul]
    exact hq
  · rw [if_neg h] at hq ⊢
    simp (disch := (first | assumption | exact xnl_i _ | exact xnl_r _ | exact xnl_n | exact Bool.toNat_lt _ | exact hb _ | exact hb2 _ | omega | exact Nat.le_of_ble_eq_true rfl | rfl | decide)) only [pL_addsUp_217, pL_addsUp_219, pL_addsUp_220, pL_addsUp_221, nI_add, pk_mul, xn_sub, xn_and, xn_or, xn_xor, xn_shl, xn_shr, xn_lt, xn_le, xn_eq, xrf_some, xup_eq, xup_ne, xrow_eq, xrow_ne, Option.toList_some, Option.toList_none, List.singleton_append, List.nil_append, List.cons_append, xnl_n, xnl_i, xnl_r, Nat.zero_add, Nat.add_zero, ↓reduceIte, Nat.reduceEqDiff, Nat.reduceLeDiff, Nat.reduceAdd, Nat.reduceMul, Nat.reduceLT, Nat.one_ne_zero, eq_self, not_true_eq_false, not_false_eq_true, and_self, Nat.zero_mul]
    exact hq
theorem u_E {b9 : Bool} (hQ : ∀ b : Bool, (b = true ↔ b9 = true ∨ pst (gσ g) k = 2) → xX E mL_addsUp 241 [l1, l2, l3, l4, l5, l6, l7, l8, some (.int l9v), some (.int (nI b.toNat)), some (.int l10v), some (.int (nI (pst (gσ g) k))), l12, l13, l14] [] S V Q) : xX E mL_addsUp 223 [l1, l2, l3, l4, l5, l6, l7, l8, some (.int l9v), some (.int (nI b9.toNat)), some (.int l10v), some (.int (nI (pst (gσ g) k))), l12, l13, l14] [] S V Q := by
  have hb2 := pst_b (gσ g)
  cases b9 with
  | true =>
    have hq := hQ true ⟨fun _ => Or.inl rfl, fun _ => rfl⟩
    simp (disch := (first | assumption | exact xnl_i _ | exact xnl_r _ | exact xnl_n | exact Bool.toNat_lt _ | exact hb _ | exact hb2 _ | omega | exact Nat.le_of_ble_eq_true rfl | rfl | decide)) only [pL_addsUp_223, pL_addsUp_225, pL_addsUp_228, pL_addsUp_230, pL_addsUp_231, pL_addsUp_234, pL_addsUp_235, pL_addsUp_238, pL_addsUp_239, nI_add, pk_mul, xn_sub, xn_and, xn_or, xn_xor, xn_shl, xn_shr, xn_lt, xn_le, xn_eq, xrf_some, xup_eq, xup_ne, xrow_eq, xrow_ne, Option.toList_some, Option.toList_none, List.singleton_append, List.nil_append, List.cons_append, xnl_n, xnl_i, xnl_r, Nat.zero_add, Nat.add_zero, ↓reduceIte, Nat.reduceEqDiff, Nat.reduceLeDiff, Nat.reduceAdd, Nat.reduceMul, Nat.reduceLT, Nat.one_ne_zero, eq_self, not_true_eq_false, not_false_eq_true, and_self, Bool.toNat_true]
    exact hq
  | false =>
    by_cases h : pst (gσ g) k = 2
    · have hq := hQ true ⟨fun _ => Or.inr h, fun _ => rfl⟩
      simp (disch := (first | assumption | exact xnl_i _ | exact xnl_r _ | exact xnl_n | exact Bool.toNat_lt _ | exact hb _ | exact hb2 _ | omega | exact Nat.le_of_ble_eq_true rfl | rfl | decide)) only [pL_addsUp_223, pL_addsUp_225, pL_addsUp_228, pL_addsUp_230, pL_addsUp_231, pL_addsUp_234, pL_addsUp_235, pL_addsUp_238, pL_addsUp_239, nI_add, pk_mul, xn_sub, xn_and, xn_or, xn_xor, xn_shl, xn_shr, xn_lt, xn_le, xn_eq, xrf_some, xup_eq, xup_ne, xrow_eq, xrow_ne, Option.toList_some, Option.toList_none, List.singleton_append, List.nil_append, List.cons_append, xnl_n, xnl_i, xnl_r, Nat.zero_add, Nat.add_zero, ↓reduceIte, Nat.reduceEqDiff, Nat.reduceLeDiff, Nat.reduceAdd, Nat.reduceMul, Nat.reduceLT, Nat.one_ne_zero, eq_self, not_true_eq_false, not_false_eq_true, and_self, Bool.toNat_false, h]
      rw [h] at hq
      exact hq
    · have hq := hQ false ⟨fun z => (by cases z), fun z => by rcases z with z | z; cases z; exact absurd z h⟩
      simp (disch := (first | assumption | exact xnl_i _ | exact xnl_r _ | exact xnl_n | exact Bool.toNat_lt _ | exact hb _ | exact hb2 _ | omega | exact Nat.le_of_ble_eq_true rfl | rfl | decide)) only [pL_addsUp_223, pL_addsUp_225, pL_addsUp_228, pL_addsUp_230, pL_addsUp_231, pL_addsUp_234, pL_addsUp_235, pL_addsUp_238, pL_addsUp_239, nI_add, pk_mul, xn_sub, xn_and, xn_or, xn_xor, xn_shl, xn_shr, xn_lt, xn_le, xn_eq, xrf_some, xup_eq, xup_ne, xrow_eq, xrow_ne, Option.toList_some, Option.toList_none, List.singleton_append, List.nil_append, List.cons_append, xnl_n, xnl_i, xnl_r, Nat.zero_add, Nat.add_zero, ↓reduceIte, Nat.reduceEqDiff, Nat.reduceLeDiff, Nat.reduceAdd, Nat.reduceMul, Nat.reduceLT, Nat.one_ne_zero, eq_self, not_true_eq_false, not_false_eq_true, and_self, Bool.toNat_false, h]
      exact hq
theorem u_F {b8 : Bool} (hR : cRep S V x g) (hG : gG g) (hk : k < 8) (hQ : ∀ V', cRep S V' x g → tOut V V' x → ∀ b : Bool, (b8 = true → b = true) → (2 < pst (gσ g) k → pwait (gσ g) k = 0 ∨ (pfar (gσ g) k).testBit k = true → b = true) → xX E mL_addsUp 279 [some (.ref x), l1, l2, l3, l4, l5, l6, some (.int l7v), some (.int (nI b.toNat)), l9, some (.int (nI k)), some (.int (nI (pst (gσ g) k))), some (.int (nI (pwait (gσ g) k))), some (.int (nI 0)), l14] [] S V' Q) : xX E mL_addsUp 241 [some (.ref x), l1, l2, l3, l4, l5, l6, some (.int l7v), some (.int (nI b8.toNat)), l9, some (.int (nI k)), some (.int (nI (pst (gσ g) k))), some (.int (nI (pwait (gσ g) k))), l13, l14] [] S V Q := by
  have hb := wf_b (gs_wf hG.1); have hb2 := pst_b (gσ g); have hx5 := hR.1.1
  have hw8 := pwait_lt (gs_wf hG.1) hk
  cases b8 with
  | true =>
    have hq := hQ V hR tOut_r true (fun _ => rfl) (fun _ _ => rfl)
    simp (disch := (first | assumption | exact xnl_i _ | exact xnl_r _ | exact xnl_n | exact Bool.toNat_lt _ | exact hb _ | exact hb2 _ | omega | exact Nat.le_of_ble_eq_true rfl | rfl | decide)) only [pL_addsUp_241, pL_addsUp_243, pL_addsUp_246, pL_addsUp_248, pL_addsUp_249, pL_addsUp_252, pL_addsUp_254, pL_addsUp_257, pL_addsUp_258, pL_addsUp_260, pL_addsUp_262, pL_addsUp_265, pL_addsUp_266, pL_addsUp_269, pL_addsUp_270, pL_addsUp_273, pL_addsUp_274, pL_addsUp_276, pL_addsUp_277, nI_add, pk_mul, xn_sub, xn_and, xn_or, xn_xor, xn_shl, xn_shr, xn_lt, xn_le, xn_eq, xrf_some, xup_eq, xup_ne, xrow_eq, xrow_ne, Option.toList_some, Option.toList_none, List.singleton_append, List.nil_append, List.cons_append, xnl_n, xnl_i, xnl_r, Nat.zero_add, Nat.add_zero, ↓reduceIte, Nat.reduceEqDiff, Nat.reduceLeDiff, Nat.reduceAdd, Nat.reduceMul, Nat.reduceLT, Nat.one_ne_zero, eq_self, not_true_eq_false, not_false_eq_true, and_self, Bool.toNat_true]
    exact hq
  | false =>
    by_cases h2 : pst (gσ g) k ≤ 2
    · have hq := hQ V hR tOut_r false (fun z => z) (fun z => absurd z (by omega))
      simp (disch := (first | assumption | exact xnl_i _ | exact xnl_r _ | exact xnl_n | exact Bool.toNat_lt _ | exact hb _ | exact hb2 _ | omega | exact Nat.le_of_ble_eq_true rfl | rfl | decide)) only [pL_addsUp_241, pL_addsUp_243, pL_addsUp_246, pL_addsUp_248, pL_addsUp_249, pL_addsUp_252, pL_addsUp_254, pL_addsUp_257, pL_addsUp_258, pL_addsUp_260, pL_addsUp_262, pL_addsUp_265, pL_addsUp_266, pL_addsUp_269, pL_addsUp_270, pL_addsUp_273, pL_addsUp_274, pL_addsUp_276, pL_addsUp_277, nI_add, pk_mul, xn_sub, xn_and, xn_or, xn_xor, xn_shl, xn_shr, xn_lt, xn_le, xn_eq, xrf_some, xup_eq, xup_ne, xrow_eq, xrow_ne, Option.toList_some, Option.toList_none, List.singleton_append, List.nil_append, List.cons_append, xnl_n, xnl_i, xnl_r, Nat.zero_add, Nat.add_zero, ↓reduceIte, Nat.reduceEqDiff, Nat.reduceLeDiff, Nat.reduceAdd, Nat.reduceMul, Nat.reduceLT, Nat.one_ne_zero, eq_self, not_true_eq_false, not_false_eq_true, and_self, Bool.toNat_false, h2]
      exact hq
    · by_cases h0 : pwait (gσ g) k = 0
      · have hq := hQ V hR tOut_r true (fun _ => rfl) (fun _ _ => rfl)
        rw [h0] at hq ⊢
        simp (disch := (first | assumption | exact xnl_i _ | exact xnl_r _ | exact xnl_n | exact Bool.toNat_lt _ | exact hb _ | exact hb2 _ | omega | exact Nat.le_of_ble_eq_true rfl | rfl | decide)) only [pL_addsUp_241, pL_addsUp_243, pL_addsUp_246, pL_addsUp_248, pL_addsUp_249, pL_addsUp_252, pL_addsUp_254, pL_addsUp_257, pL_addsUp_258, pL_addsUp_260, pL_addsUp_262, pL_addsUp_265, pL_addsUp_266, pL_addsUp_269, pL_addsUp_270, pL_addsUp_273, pL_addsUp_274, pL_addsUp_276, pL_addsUp_277, nI_add, pk_mul, xn_sub, xn_and, xn_or, xn_xor, xn_shl, xn_shr, xn_lt, xn_le, xn_eq, xrf_some, xup_eq, xup_ne, xrow_eq, xrow_ne, Option.toList_some, Option.toList_none, List.singleton_append, List.nil_append, List.cons_append, xnl_n, xnl_i, xnl_r, Nat.zero_add, Nat.add_zero, ↓reduceIte, Nat.reduceEqDiff, Nat.reduceLeDiff, Nat.reduceAdd, Nat.reduceMul, Nat.reduceLT, Nat.one_ne_zero, eq_self, not_true_eq_false, not_false_eq_true, and_self, Bool.toNat_false, h2]
        exact hq
      · simp (disch := (first | assumption | exact xnl_i _ | exact xnl_r _ | exact xnl_n | exact Bool.toNat_lt _ | exact hb _ | exact hb2 _ | omega | exact Nat.le_of_ble_eq_true rfl | rfl | decide)) only [pL_addsUp_241, pL_addsUp_243, pL_addsUp_246, pL_addsUp_248, pL_addsUp_249, pL_addsUp_252, pL_addsUp_254, pL_addsUp_257, pL_addsUp_258, pL_addsUp_260, nI_add, pk_mul, xn_sub, xn_and, xn_or, xn_xor, xn_shl, xn_shr, xn_lt, xn_le, xn_eq, xrf_some, xup_eq, xup_ne, xrow_eq, xrow_ne, Option.toList_some, Option.toList_none, List.singleton_append, List.nil_append, List.cons_append, xnl_n, xnl_i, xnl_r, Nat.zero_add, Nat.add_zero, ↓reduceIte, Nat.reduceEqDiff, Nat.reduceLeDiff, Nat.reduceAdd, Nat.reduceMul, Nat.reduceLT, Nat.one_ne_zero, eq_self, not_true_eq_false, not_false_eq_true, and_self, Bool.toNat_false, h2, h0]
        rw [pL_addsUp_262 hx5 (Nat.le_of_ble_eq_true rfl)]
        refine d_of hk (by decide) hR hG (fun V1 hR1 o1 => ?_)
        rw [pofv_9]
        by_cases h : (pfar (gσ g) k).testBit k = true
        · have hq := hQ V1 hR1 o1 true (fun _ => rfl) (fun _ _ => rfl)
          rw [if_pos h]
          simp (disch := (first | assumption | exact xnl_i _ | exact xnl_r _ | exact xnl_n | exact Bool.toNat_lt _ | exact hb _ | exact hb2 _ | omega | exact Nat.le_of_ble_eq_true rfl | rfl | decide)) only [pL_addsUp_265, pL_addsUp_266, pL_addsUp_269, pL_addsUp_270, pL_addsUp_273, pL_addsUp_274, pL_addsUp_276, pL_addsUp_277, nI_add, pk_mul, xn_sub, xn_and, xn_or, xn_xor, xn_shl, xn_shr, xn_lt, xn_le, xn_eq, xrf_some, xup_eq, xup_ne, xrow_eq, xrow_ne, Option.toList_some, Option.toList_none, List.singleton_append, List.nil_append, List.cons_append, xnl_n, xnl_i, xnl_r, Nat.zero_add, Nat.add_zero, ↓reduceIte, Nat.reduceEqDiff, Nat.reduceLeDiff, Nat.reduceAdd, Nat.reduceMul, Nat.reduceLT, Nat.one_ne_zero, eq_self, not_true_eq_false, not_false_eq_true, and_self]
          exact hq
        · have hq := hQ V1 hR1 o1 false (fun z => z) (fun _ z => by rcases z with z | z; exact absurd z h0; exact absurd z h)
          rw [if_neg h]
          simp (disch := (first | assumption | exact xnl_i _ | exact xnl_r _ | exact xnl_n | exact Bool.toNat_lt _ | exact hb _ | exact hb2 _ | omega | exact Nat.le_of_ble_eq_true rfl | rfl | decide)) only [pL_addsUp_265, pL_addsUp_266, pL_addsUp_269, pL_addsUp_270, pL_addsUp_273, pL_addsUp_274, pL_addsUp_276, pL_addsUp_277, nI_add, pk_mul, xn_sub, xn_and, xn_or, xn_xor, xn_shl, xn_shr, xn_lt, xn_le, xn_eq, xrf_some, xup_eq, xup_ne, xrow_eq, xrow_ne, Option.toList_some, Option.toList_none, List.singleton_append, List.nil_append, List.cons_append, xnl_n, xnl_i, xnl_r, Nat.zero_add, Nat.add_zero, ↓reduceIte, Nat.reduceEqDiff, Nat.reduceLeDiff, Nat.reduceAdd, Nat.reduceMul, Nat.reduceLT, Nat.one_ne_zero, eq_self, not_true_eq_false, not_false_eq_true, and_self, Nat.zero_ne_one]
          exact hq
theorem u_G (hG : gG g) (hk : k < 8) : ∀ n e V (b8 : Bool) l14, e + n = 8 → cRep S V x g → (∀ V' (b : Bool) l14, cRep S V' x g → tOut V V' x → (b8 = true → b = true) → (∀ d, e ≤ d → d < 8 → (pwait (gσ g) k).testBit d = true → pst (gσ g) d = 0 → b = true) → xX E mL_addsUp 362 [some (.ref x), l1, l2, l3, l4, l5, l6, some (.int l7v), some (.int (nI b.toNat)), l9, some (.int (nI k)), l11, some (.int (nI (pwait (gσ g) k))), some (.int (nI 8)), l14] [] S V' Q) → xX E mL_addsUp 279 [some (.ref x), l1, l2, l3, l4, l5, l6, some (.int l7v), some (.int (nI b8.toNat)), l9, some (.int (nI k)), l11, some (.int (nI (pwait (gσ g) k))), some (.int (nI e)), l14] [] S V Q := by
  have hb := wf_b (gs_wf hG.1)
  have hb2 := pst_b (gσ g)
  have hw8 := pwait_lt (gs_wf hG.1) hk
  intro n
  induction n with
  | zero =>
    intro e V b8 l14 hn hR hQ
    have he : e = 8 := by omega
    subst he
    simp (disch := (first | assumption | exact xnl_i _ | exact xnl_r _ | exact xnl_n | exact Bool.toNat_lt _ | exact hb _ | exact hb2 _ | omega | exact Nat.le_of_ble_eq_true rfl | rfl | decide)) only [pL_addsUp_279, pL_addsUp_281, pL_addsUp_283, nI_add, pk_mul, xn_sub, xn_and, xn_or, xn_xor, xn_shl, xn_shr, xn_lt, xn_le, xn_eq, xrf_some, xup_eq, xup_ne, xrow_eq, xrow_ne, Option.toList_some, Option.toList_none, List.singleton_append, List.nil_append, List.cons_append, xnl_n, xnl_i, xnl_r, Nat.zero_add, Nat.add_zero, ↓reduceIte, Nat.reduceEqDiff, Nat.reduceLeDiff, Nat.reduceAdd, Nat.reduceMul, Nat.reduceLT, Nat.one_ne_zero, eq_self, not_true_eq_false, not_false_eq_true, and_self]
    exact hQ V b8 l14 hR tOut_r (fun z => z) (fun d h1 h2 => by omega)
  | succ n ih =>
    intro e V b8 l14 hn hR hQ
    have hx5 := hR.1.1
    have he8 : e < 8 := by omega
    have hne : ¬ 8 ≤ e := by omega
    have hpl := plent_lt hb e
    cases hbit : (pwait (gσ g) k).testBit e with
    | false =>
      have eq0 : pwait (gσ g) k / 2 ^ e &&& 1 = 0 := by rw [tb_and1, hbit]; rfl
      have nxt := ih (e + 1) V b8 (some (.int (nI 0))) (by omega) hR (fun V' b l14 hR' o' hb1 hb3 => hQ V' b l14 hR' o' hb1 (fun d h1 h2 h3 h4 => by
        by_cases hde : d = e
        · subst hde; rw [hbit] at h3; cases h3
        · exact hb3 d (by omega) h2 h3 h4))
      cases b8 with
      | true =>
        rw [pL_addsUp_279]
        simp (disch := (first | assumption | exact xnl_i _ | exact xnl_r _ | exact xnl_n | exact Bool.toNat_lt _ | exact hb _ | exact hb2 _ | omega | exact Nat.le_of_ble_eq_true rfl | rfl | decide)) only [pL_addsUp_281, pL_addsUp_283, pL_addsUp_286, pL_addsUp_288, pL_addsUp_290, pL_addsUp_291, pL_addsUp_292, pL_addsUp_293, pL_addsUp_294, pL_addsUp_297, pL_addsUp_298, pL_addsUp_301, pL_addsUp_302, pL_addsUp_304, pL_addsUp_306, pL_addsUp_309, pL_addsUp_311, pL_addsUp_314, pL_addsUp_315, pL_addsUp_317, pL_addsUp_319, pL_addsUp_322, pL_addsUp_325, pL_addsUp_326, pL_addsUp_329, pL_addsUp_330, pL_addsUp_332, pL_addsUp_334, pL_addsUp_337, pL_addsUp_338, pL_addsUp_340, pL_addsUp_341, pL_addsUp_344, pL_addsUp_345, pL_addsUp_347, pL_addsUp_348, pL_addsUp_351, pL_addsUp_354, pL_addsUp_355, pL_addsUp_356, pL_addsUp_359, nI_add, pk_mul, xn_sub, xn_and, xn_or, xn_xor, xn_shl, xn_shr, xn_lt, xn_le, xn_eq, xrf_some, xup_eq, xup_ne, xrow_eq, xrow_ne, Option.toList_some, Option.toList_none, List.singleton_append, List.nil_append, List.cons_append, xnl_n, xnl_i, xnl_r, Nat.zero_add, Nat.add_zero, ↓reduceIte, Nat.reduceEqDiff, Nat.reduceLeDiff, Nat.reduceAdd, Nat.reduceMul, Nat.reduceLT, Nat.one_ne_zero, eq_self, not_true_eq_false, not_false_eq_true, and_self, hne, eq0, Nat.zero_ne_one, Bool.toNat_true]
        exact nxt
      | false =>
        rw [pL_addsUp_279]
        simp (disch := (first | assumption | exact xnl_i _ | exact xnl_r _ | exact xnl_n | exact Bool.toNat_lt _ | exact hb _ | exact hb2 _ | omega | exact Nat.le_of_ble_eq_true rfl | rfl | decide)) only [pL_addsUp_281, pL_addsUp_283, pL_addsUp_286, pL_addsUp_288, pL_addsUp_290, pL_addsUp_291, pL_addsUp_292, pL_addsUp_293, pL_addsUp_294, pL_addsUp_297, pL_addsUp_298, pL_addsUp_301, pL_addsUp_302, pL_addsUp_304, pL_addsUp_306, pL_addsUp_309, pL_addsUp_311, pL_addsUp_314, pL_addsUp_315, pL_addsUp_317, pL_addsUp_319, pL_addsUp_322, pL_addsUp_325, pL_addsUp_326, pL_addsUp_329, pL_addsUp_330, pL_addsUp_332, pL_addsUp_334, pL_addsUp_337, pL_addsUp_338, pL_addsUp_340, pL_addsUp_341, pL_addsUp_344, pL_addsUp_345, pL_addsUp_347, pL_addsUp_348, pL_addsUp_351, pL_addsUp_354, pL_addsUp_355, pL_addsUp_356, pL_addsUp_359, nI_add, pk_mul, xn_sub, xn_and, xn_or, xn_xor, xn_shl, xn_shr, xn_lt, xn_le, xn_eq, xrf_some, xup_eq, xup_ne, xrow_eq, xrow_ne, Option.toList_some, Option.toList_none, List.singleton_append, List.nil_append, List.cons_append, xnl_n, xnl_i, xnl_r, Nat.zero_add, Nat.add_zero, ↓reduceIte, Nat.reduceEqDiff, Nat.reduceLeDiff, Nat.reduceAdd, Nat.reduceMul, Nat.reduceLT, Nat.one_ne_zero, eq_self, not_true_eq_false, not_false_eq_true, and_self, hne, eq0, Nat.zero_ne_one, Bool.toNat_false]
        exact nxt
    | true =>
      have eq1 : pwait (gσ g) k / 2 ^ e &&& 1 = 1 := (tb_and _ _).mpr hbit
      have hle : gσ g (62 * k + 3) ≤ plent (gσ g) e := pwait_lent hk hbit
      -- behind 332: the lent priority
      have tl : ∀ (V : xV) (b : Bool), cRep S V x g → (∀ V', cRep S V' x g → tOut V V' x → xX E mL_addsUp 279 [some (.ref x), l1, l2, l3, l4, l5, l6, some (.int l7v), some (.int (nI b.toNat)), l9, some (.int (nI k)), l11, some (.int (nI (pwait (gσ g) k))), some (.int (nI (e + 1))), some (.int (nI 1))] [] S V' Q) → xX E mL_addsUp 332 [some (.ref x), l1, l2, l3, l4, l5, l6, some (.int l7v), some (.int (nI b.toNat)), l9, some (.int (nI k)), l11, some (.int (nI (pwait (gσ g) k))), some (.int (nI e)), some (.int (nI 1))] [] S V Q := by
        intro V b hR hq
        simp (disch := (first | assumption | exact xnl_i _ | exact xnl_r _ | exact xnl_n | exact Bool.toNat_lt _ | exact hb _ | exact hb2 _ | omega | exact Nat.le_of_ble_eq_true rfl | rfl | decide)) only [pL_addsUp_332, pL_addsUp_334, pL_addsUp_337, pL_addsUp_338, pL_addsUp_340, nI_add, pk_mul, xn_sub, xn_and, xn_or, xn_xor, xn_shl, xn_shr, xn_lt, xn_le, xn_eq, xrf_some, xup_eq, xup_ne, xrow_eq, xrow_ne, Option.toList_some, Option.toList_none, List.singleton_append, List.nil_append, List.cons_append, xnl_n, xnl_i, xnl_r, Nat.zero_add, Nat.add_zero, ↓reduceIte, Nat.reduceEqDiff, Nat.reduceLeDiff, Nat.reduceAdd, Nat.reduceMul, Nat.reduceLT, Nat.one_ne_zero, eq_self, not_true_eq_false, not_false_eq_true, and_self]
        rw [pL_addsUp_341 hx5 (Nat.le_of_ble_eq_true rfl)]
        refine d_of he8 (by decide) hR hG (fun V1 hR1 o1 => ?_)
        rw [pofv_4]
        simp (disch := (first | assumption | exact xnl_i _ | exact xnl_r _ | exact xnl_n | exact Bool.toNat_lt _ | exact hb _ | exact hb2 _ | omega | exact Nat.le_of_ble_eq_true rfl | rfl | decide)) only [pL_addsUp_344, pL_addsUp_345, pL_addsUp_347, nI_add, pk_mul, xn_sub, xn_and, xn_or, xn_xor, xn_shl, xn_shr, xn_lt, xn_le, xn_eq, xrf_some, xup_eq, xup_ne, xrow_eq, xrow_ne, Option.toList_some, Option.toList_none, List.singleton_append, List.nil_append, List.cons_append, xnl_n, xnl_i, xnl_r, Nat.zero_add, Nat.add_zero, ↓reduceIte, Nat.reduceEqDiff, Nat.reduceLeDiff, Nat.reduceAdd, Nat.reduceMul, Nat.reduceLT, Nat.one_ne_zero, eq_self, not_true_eq_false, not_false_eq_true, and_self]
        rw [pL_addsUp_348 hx5 (Nat.le_of_ble_eq_true rfl)]
        refine d_of hk (by decide) hR1 hG (fun V2 hR2 o2 => ?_)
        rw [pofv_3]
        simp (disch := (first | assumption | exact xnl_i _ | exact xnl_r _ | exact xnl_n | exact Bool.toNat_lt _ | exact hb _ | exact hb2 _ | omega | exact Nat.le_of_ble_eq_true rfl | rfl | decide)) only [pL_addsUp_351, pL_addsUp_354, pL_addsUp_355, pL_addsUp_356, pL_addsUp_359, nI_add, pk_mul, xn_sub, xn_and, xn_or, xn_xor, xn_shl, xn_shr, xn_lt, xn_le, xn_eq, xrf_some, xup_eq, xup_ne, xrow_eq, xrow_ne, Option.toList_some, Option.toList_none, List.singleton_append, List.nil_append, List.cons_append, xnl_n, xnl_i, xnl_r, Nat.zero_add, Nat.add_zero, ↓reduceIte, Nat.reduceEqDiff, Nat.reduceLeDiff, Nat.reduceAdd, Nat.reduceMul, Nat.reduceLT, Nat.one_ne_zero, eq_self, not_true_eq_false, not_false_eq_true, and_self, hle]
        exact hq V2 hR2 (tOut_t o1 o2)
      cases b8 with
      | true =>
        rw [pL_addsUp_279]
        simp (disch := (first | assumption | exact xnl_i _ | exact xnl_r _ | exact xnl_n | exact Bool.toNat_lt _ | exact hb _ | exact hb2 _ | omega | exact Nat.le_of_ble_eq_true rfl | rfl | decide)) only [pL_addsUp_281, pL_addsUp_283, pL_addsUp_286, pL_addsUp_288, pL_addsUp_290, pL_addsUp_291, pL_addsUp_292, pL_addsUp_293, pL_addsUp_294, pL_addsUp_297, pL_addsUp_298, pL_addsUp_301, pL_addsUp_302, pL_addsUp_304, pL_addsUp_306, pL_addsUp_309, pL_addsUp_311, pL_addsUp_314, pL_addsUp_315, pL_addsUp_317, pL_addsUp_319, pL_addsUp_322, pL_addsUp_325, pL_addsUp_326, pL_addsUp_329, pL_addsUp_330, nI_add, pk_mul, xn_sub, xn_and, xn_or, xn_xor, xn_shl, xn_shr, xn_lt, xn_le, xn_eq, xrf_some, xup_eq, xup_ne, xrow_eq, xrow_ne, Option.toList_some, Option.toList_none, List.singleton_append, List.nil_append, List.cons_append, xnl_n, xnl_i, xnl_r, Nat.zero_add, Nat.add_zero, ↓reduceIte, Nat.reduceEqDiff, Nat.reduceLeDiff, Nat.reduceAdd, Nat.reduceMul, Nat.reduceLT, Nat.one_ne_zero, eq_self, not_true_eq_false, not_false_eq_true, and_self, hne, eq1, Bool.toNat_true]
        refine tl V true hR (fun V1 hR1 o1 => ?_)
        exact ih (e + 1) V1 true _ (by omega) hR1 (fun V' b l14 hR' o' hb1 hb3 => hQ V' b l14 hR' (tOut_t o1 o') hb1 (fun d h1 h2 h3 h4 => hb1 rfl))
      | false =>
        rw [pL_addsUp_279]
        simp (disch := (first | assumption | exact xnl_i _ | exact xnl_r _ | exact xnl_n | exact Bool.toNat_lt _ | exact hb _ | exact hb2 _ | omega | exact Nat.le_of_ble_eq_true rfl | rfl | decide)) only [pL_addsUp_281, pL_addsUp_283, pL_addsUp_286, pL_addsUp_288, pL_addsUp_290, pL_addsUp_291, pL_addsUp_292, pL_addsUp_293, pL_addsUp_294, pL_addsUp_297, pL_addsUp_298, pL_addsUp_301, pL_addsUp_302, pL_addsUp_304, pL_addsUp_306, pL_addsUp_309, pL_addsUp_311, pL_addsUp_314, pL_addsUp_315, pL_addsUp_317, nI_add, pk_mul, xn_sub, xn_and, xn_or, xn_xor, xn_shl, xn_shr, xn_lt, xn_le, xn_eq, xrf_some, xup_eq, xup_ne, xrow_eq, xrow_ne, Option.toList_some, Option.toList_none, List.singleton_append, List.nil_append, List.cons_append, xnl_n, xnl_i, xnl_r, Nat.zero_add, Nat.add_zero, ↓reduceIte, Nat.reduceEqDiff, Nat.reduceLeDiff, Nat.reduceAdd, Nat.reduceMul, Nat.reduceLT, Nat.one_ne_zero, eq_self, not_true_eq_false, not_false_eq_true, and_self, hne, eq1, Bool.toNat_false]
        rw [pL_addsUp_319 hx5 (Nat.le_of_ble_eq_true rfl)]
        refine d_of he8 (by decide) hR hG (fun V1 hR1 o1 => ?_)
        rw [pofv_7]
        by_cases h0 : pst (gσ g) e = 0
        · simp (disch := (first | assumption | exact xnl_i _ | exact xnl_r _ | exact xnl_n | exact Bool.toNat_lt _ | exact hb _ | exact hb2 _ | omega | exact Nat.le_of_ble_eq_true rfl | rfl | decide)) only [pL_addsUp_322, pL_addsUp_325, pL_addsUp_326, pL_addsUp_329, pL_addsUp_330, nI_add, pk_mul, xn_sub, xn_and, xn_or, xn_xor, xn_shl, xn_shr, xn_lt, xn_le, xn_eq, xrf_some, xup_eq, xup_ne, xrow_eq, xrow_ne, Option.toList_some, Option.toList_none, List.singleton_append, List.nil_append, List.cons_append, xnl_n, xnl_i, xnl_r, Nat.zero_add, Nat.add_zero, ↓reduceIte, Nat.reduceEqDiff, Nat.reduceLeDiff, Nat.reduceAdd, Nat.reduceMul, Nat.reduceLT, Nat.one_ne_zero, eq_self, not_true_eq_false, not_false_eq_true, and_self, h0]
          refine tl V1 true hR1 (fun V2 hR2 o2 => ?_)
          exact ih (e + 1) V2 true _ (by omega) hR2 (fun V' b l14 hR' o' hb1 hb3 => hQ V' b l14 hR' (tOut_t o1 (tOut_t o2 o')) (fun _ => hb1 rfl) (fun d h1 h2 h3 h4 => hb1 rfl))
        · simp (disch := (first | assumption | exact xnl_i _ | exact xnl_r _ | exact xnl_n | exact Bool.toNat_lt _ | exact hb _ | exact hb2 _ | omega | exact Nat.le_of_ble_eq_true rfl | rfl | decide)) only [pL_addsUp_322, pL_addsUp_325, pL_addsUp_326, pL_addsUp_329, pL_addsUp_330, nI_add, pk_mul, xn_sub, xn_and, xn_or, xn_xor, xn_shl, xn_shr, xn_lt, xn_le, xn_eq, xrf_some, xup_eq, xup_ne, xrow_eq, xrow_ne, Option.toList_some, Option.toList_none, List.singleton_append, List.nil_append, List.cons_append, xnl_n, xnl_i, xnl_r, Nat.zero_add, Nat.add_zero, ↓reduceIte, Nat.reduceEqDiff, Nat.reduceLeDiff, Nat.reduceAdd, Nat.reduceMul, Nat.reduceLT, Nat.one_ne_zero, eq_self, not_true_eq_false, not_false_eq_true, and_self, h0]
          refine tl V1 false hR1 (fun V2 hR2 o2 => ?_)
          exact ih (e + 1) V2 false _ (by omega) hR2 (fun V' b l14 hR' o' hb1 hb3 => hQ V' b l14 hR' (tOut_t o1 (tOut_t o2 o')) hb1 (fun d h1 h2 h3 h4 => by
            by_cases hde : d = e
            · subst hde; exact absurd h4 h0
            · exact hb3 d (by omega) h2 h3 h4))
end ADS
