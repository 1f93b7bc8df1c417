/-! ===== the law's small methods; its digest ===== -/
section SML
variable {E : Nat × Nat × Nat} {b L i : Nat}
theorem s_low (v : Int32) {n : Nat} (hn : 0 < n) (hn2 : n < 2147483648) : ∃ r : Int32, ∀ (S : xSh) (V : xV) (Q : Option Value → xSh → xV → Prop), xC E mL_low [.int v, .int (nI n)] S V Q ↔ Q (some (.int r)) S V := by
  have h0 : ¬ nI n = 0 := nI_ne0 hn hn2
  refine ⟨(v &&& nI 2147483647) - (v &&& nI 2147483647) / nI n * nI n, fun S V Q => ?_⟩
  show xX E mL_low 0 [some (.int v), some (.int (nI n))] [] S V Q ↔ _
  rw [pL_low_0, pL_low_1, pL_low_3, pL_low_4, pL_low_5i h0, pL_low_6]
theorem s_cell {S : xSh} {V : xV} (hk : xkd S b = 14) (hL : xln S b = L) (hL31 : L < 2147483648) (hi : i < 2147483648) : ∃ r : Int32, ∀ Q : Option Value → xSh → xV → Prop, xC E mL_cell [.ref b, .int (nI i)] S V Q ↔ Q (some (.int r)) S V := by
  by_cases h : L ≤ i
  · refine ⟨nI 7919 * (nI i + nI 3) * (nI i + nI 11), fun Q => ?_⟩
    have h1 : nI L ≤ nI i := (xn_le hL31 hi).mpr h
    show xX E mL_cell 0 [some (.ref b), some (.int (nI i))] [] S V Q ↔ _
    rw [pL_cell_0, pL_cell_1, pL_cell_2 (Or.inr hk), pL_cell_3, hL, if_pos h1, pL_cell_12, pL_cell_15, pL_cell_16, pL_cell_17, pL_cell_18, pL_cell_19, pL_cell_20, pL_cell_22, pL_cell_23, pL_cell_24]
  · refine ⟨V b i, fun Q => ?_⟩
    have h1 : ¬ nI L ≤ nI i := fun z => h ((xn_le hL31 hi).mp z)
    show xX E mL_cell 0 [some (.ref b), some (.int (nI i))] [] S V Q ↔ _
    rw [pL_cell_0, pL_cell_1, pL_cell_2 (Or.inr hk), pL_cell_3, hL, if_neg h1, pL_cell_6, pL_cell_7, pL_cell_8 (Or.inr hk) (by omega) (by omega), pL_cell_9, pL_cell_24]
end SML
section DGS
variable {E : Nat × Nat × Nat} {S : xSh} {V : xV} {Q : Option Value → xSh → xV → Prop} {x k w e l c : Nat} {g : pG}
theorem d_count (hw : w < 10) (hR : cRep S V x g) (hG : gG g) (hQ : ∀ V', cRep S V' x g → tOut V V' x → Q (some (.int (pcountv g w))) S V') : xC E mX4_count [.ref x, .int (nI w)] S V Q :=
  c_count hR hG (fun V' h1 h2 => by rw [pcount_n hw] at h1 ⊢; exact hQ V' h1 h2)
theorem d_of (hk : k < 8) (hw : w < 14) (hR : cRep S V x g) (hG : gG g) (hQ : ∀ V', cRep S V' x g → tOut V V' x → Q (some (.int (nI (pofv (gσ g) k w)))) S V') : xC E mX4_of [.ref x, .int (nI k), .int (nI w)] S V Q :=
  c_of hR hG (fun V' h1 h2 => by rw [pof_n hk hw] at h1 ⊢; exact hQ V' h1 h2)
theorem d_inbox (hk : k < 8) (he : e < gσ g (62 * k + 4)) (hR : cRep S V x g) (hG : gG g) (hQ : ∀ V', cRep S V' x g → tOut V V' x → Q (some (.int (nI (gσ g (62 * k + (5 + e)))))) S V') : xC E mX4_inbox [.ref x, .int (nI k), .int (nI e)] S V Q :=
  c_inbox hR hG (fun V' h1 h2 => by rw [pinbox_n hG hk he] at h1 ⊢; exact hQ V' h1 h2)
theorem d_command (hk : k < 8) (he : e < gσ g (62 * k)) (hc : c < 3) (hR : cRep S V x g) (hG : gG g) (hQ : ∀ V', cRep S V' x g → tOut V V' x → Q (some (.int (nI (gσ g (62 * k + (14 + 3 * e + c)))))) S V') : xC E mX4_command [.ref x, .int (nI k), .int (nI e), .int (nI c)] S V Q :=
  c_command hR hG (fun V' h1 h2 => by rw [pcommand_n hG hk he hc] at h1 ⊢; exact hQ V' h1 h2)
theorem d_holder (hl : l < 4) (hR : cRep S V x g) (hG : gG g) (hQ : ∀ V', cRep S V' x g → tOut V V' x → Q (some (.int (hI (gσ g (497 + l))))) S V') : xC E mX4_holder [.ref x, .int (nI l)] S V Q :=
  c_holder hR hG (fun V' h1 h2 => by rw [pholder_n hl] at h1 ⊢; exact hQ V' h1 h2)
theorem g_loop1 (hG : gG g) : ∀ n i V l4, i + n = 8 → cRep S V x g → (∀ V', cRep S V' x g → tOut V V' x → xX E mL_digest 31 [some (.ref x), some (.long (dcnt (gσ g) 8 (lN 3))), none, some (.int (nI 8)), l4] [] S V' Q) → xX E mL_digest 6 [some (.ref x), some (.long (dcnt (gσ g) i (lN 3))), none, some (.int (nI i)), l4] [] S V Q := by
  intro n
  induction n with
  | zero =>
    intro i V l4 hn hR hQ
    have hi : i = 8 := by omega
    subst hi
    simp (disch := (first | assumption | exact xnl_i _ | exact xnl_r _ | exact xnl_n | exact Bool.toNat_lt _ | exact hb _ | exact hb2 _ | omega | exact Nat.le_of_ble_eq_true rfl | rfl | decide)) only [pL_digest_6, pL_digest_7, pL_digest_9, nI_add, pk_mul, xn_sub, xn_and, xn_or, xn_xor, xn_shl, xn_shr, xn_lt, xn_le, xn_eq, xrf_some, xup_eq, xup_ne, xrow_eq, xrow_ne, Option.toList_some, Option.toList_none, List.singleton_append, List.nil_append, List.cons_append, xnl_n, xnl_i, xnl_r, Nat.zero_add, Nat.add_zero, ↓reduceIte, Nat.reduceEqDiff, Nat.reduceLeDiff, Nat.reduceAdd, Nat.reduceMul, Nat.reduceLT, Nat.one_ne_zero, eq_self, not_true_eq_false, not_false_eq_true, and_self]
    exact hQ V hR tOut_r
  | succ n ih =>
    intro i V l4 hn hR hQ
    have h : ¬ 8 ≤ i := by omega
    have hx5 := hR.1.1
    simp (disch := (first | assumption | exact xnl_i _ | exact xnl_r _ | exact xnl_n | exact Bool.toNat_lt _ | exact hb _ | exact hb2 _ | omega | exact Nat.le_of_ble_eq_true rfl | rfl | decide)) only [pL_digest_6, pL_digest_7, pL_digest_9, pL_digest_12, pL_digest_15, pL_digest_16, pL_digest_17, pL_digest_18, nI_add, pk_mul, xn_sub, xn_and, xn_or, xn_xor, xn_shl, xn_shr, xn_lt, xn_le, xn_eq, xrf_some, xup_eq, xup_ne, xrow_eq, xrow_ne, Option.toList_some, Option.toList_none, List.singleton_append, List.nil_append, List.cons_append, xnl_n, xnl_i, xnl_r, Nat.zero_add, Nat.add_zero, ↓reduceIte, Nat.reduceEqDiff, Nat.reduceLeDiff, Nat.reduceAdd, Nat.reduceMul, Nat.reduceLT, Nat.one_ne_zero, eq_self, not_true_eq_false, not_false_eq_true, and_self, h]
    rw [pL_digest_19 hx5 (Nat.le_of_ble_eq_true rfl)]
    refine d_count (by omega) hR hG (fun V1 hR1 o1 => ?_)
    rw [pcountv_s (by omega)]
    simp (disch := (first | assumption | exact xnl_i _ | exact xnl_r _ | exact xnl_n | exact Bool.toNat_lt _ | exact hb _ | exact hb2 _ | omega | exact Nat.le_of_ble_eq_true rfl | rfl | decide)) only [pL_digest_22, pL_digest_23, pL_digest_24, pL_digest_25, pL_digest_28, nI_add, pk_mul, xn_sub, xn_and, xn_or, xn_xor, xn_shl, xn_shr, xn_lt, xn_le, xn_eq, xrf_some, xup_eq, xup_ne, xrow_eq, xrow_ne, Option.toList_some, Option.toList_none, List.singleton_append, List.nil_append, List.cons_append, xnl_n, xnl_i, xnl_r, Nat.zero_add, Nat.add_zero, ↓reduceIte, Nat.reduceEqDiff, Nat.reduceLeDiff, Nat.reduceAdd, Nat.reduceMul, Nat.reduceLT, Nat.one_ne_zero, eq_self, not_true_eq_false, not_false_eq_true, and_self]
    exact ih (i + 1) V1 l4 (by omega) hR1 (fun V2 hR2 o2 => hQ V2 hR2 (tOut_t o1 o2))
theorem g_loop2 (hG : gG g) (hk : k < 8) (h0 : Int64) : ∀ n i V, i + n = 14 → cRep S V x g → (∀ V', cRep S V' x g → tOut V V' x → xX E mL_digest 70 [some (.ref x), some (.long (dof (gσ g) k 14 h0)), none, some (.int (nI k)), some (.int (nI 14))] [] S V' Q) → xX E mL_digest 42 [some (.ref x), some (.long (dof (gσ g) k i h0)), none, some (.int (nI k)), some (.int (nI i))] [] S V Q := by
  intro n
  induction n with
  | zero =>
    intro i V hn hR hQ
    have hi : i = 14 := by omega
    subst hi
    simp (disch := (first | assumption | exact xnl_i _ | exact xnl_r _ | exact xnl_n | exact Bool.toNat_lt _ | exact hb _ | exact hb2 _ | omega | exact Nat.le_of_ble_eq_true rfl | rfl | decide)) only [pL_digest_42, pL_digest_44, pL_digest_46, nI_add, pk_mul, xn_sub, xn_and, xn_or, xn_xor, xn_shl, xn_shr, xn_lt, xn_le, xn_eq, xrf_some, xup_eq, xup_ne, xrow_eq, xrow_ne, Option.toList_some, Option.toList_none, List.singleton_append, List.nil_append, List.cons_append, xnl_n, xnl_i, xnl_r, Nat.zero_add, Nat.add_zero, ↓reduceIte, Nat.reduceEqDiff, Nat.reduceLeDiff, Nat.reduceAdd, Nat.reduceMul, Nat.reduceLT, Nat.one_ne_zero, eq_self, not_true_eq_false, not_false_eq_true, and_self]
    exact hQ V hR tOut_r
  | succ n ih =>
    intro i V hn hR hQ
    have h : ¬ 14 ≤ i := by omega
    have hx5 := hR.1.1
    simp (disch := (first | assumption | exact xnl_i _ | exact xnl_r _ | exact xnl_n | exact Bool.toNat_lt _ | exact hb _ | exact hb2 _ | omega | exact Nat.le_of_ble_eq_true rfl | rfl | decide)) only [pL_digest_42, pL_digest_44, pL_digest_46, pL_digest_49, pL_digest_52, pL_digest_53, pL_digest_54, pL_digest_55, pL_digest_56, nI_add, pk_mul, xn_sub, xn_and, xn_or, xn_xor, xn_shl, xn_shr, xn_lt, xn_le, xn_eq, xrf_some, xup_eq, xup_ne, xrow_eq, xrow_ne, Option.toList_some, Option.toList_none, List.singleton_append, List.nil_append, List.cons_append, xnl_n, xnl_i, xnl_r, Nat.zero_add, Nat.add_zero, ↓reduceIte, Nat.reduceEqDiff, Nat.reduceLeDiff, Nat.reduceAdd, Nat.reduceMul, Nat.reduceLT, Nat.one_ne_zero, eq_self, not_true_eq_false, not_false_eq_true, and_self, h]
    rw [pL_digest_58 hx5 (Nat.le_of_ble_eq_true rfl)]
    refine d_of hk (by omega) hR hG (fun V1 hR1 o1 => ?_)
    simp (disch := (first | assumption | exact xnl_i _ | exact xnl_r _ | exact xnl_n | exact Bool.toNat_lt _ | exact hb _ | exact hb2 _ | omega | exact Nat.le_of_ble_eq_true rfl | rfl | decide)) only [pL_digest_61, pL_digest_62, pL_digest_63, pL_digest_64, pL_digest_67, nI_add, pk_mul, xn_sub, xn_and, xn_or, xn_xor, xn_shl, xn_shr, xn_lt, xn_le, xn_eq, xrf_some, xup_eq, xup_ne, xrow_eq, xrow_ne, Option.toList_some, Option.toList_none, List.singleton_append, List.nil_append, List.cons_append, xnl_n, xnl_i, xnl_r, Nat.zero_add, Nat.add_zero, ↓reduceIte, Nat.reduceEqDiff, Nat.reduceLeDiff, Nat.reduceAdd, Nat.reduceMul, Nat.reduceLT, Nat.one_ne_zero, eq_self, not_true_eq_false, not_false_eq_true, and_self]
    exact ih (i + 1) V1 (by omega) hR1 (fun V2 hR2 o2 => hQ V2 hR2 (tOut_t o1 o2))
theorem g_loop3 (hG : gG g) (hk : k < 8) (h0 : Int64) : ∀ n i V, i + n = gσ g (62 * k + 4) → cRep S V x g → (∀ V', cRep S V' x g → tOut V V' x → xX E mL_digest 105 [some (.ref x), some (.long (din (gσ g) k (gσ g (62 * k + 4)) h0)), none, some (.int (nI k)), some (.int (nI (gσ g (62 * k + 4))))] [] S V' Q) → xX E mL_digest 73 [some (.ref x), some (.long (din (gσ g) k i h0)), none, some (.int (nI k)), some (.int (nI i))] [] S V Q := by
  have hb := wf_b (gs_wf hG.1)
  have hbk := hb (62 * k + 4)
  intro n
  induction n with
  | zero =>
    intro i V hn hR hQ
    have hi : i = gσ g (62 * k + 4) := by omega
    have hle : gσ g (62 * k + 4) ≤ i := by omega
    have hx5 := hR.1.1
    simp (disch := (first | assumption | exact xnl_i _ | exact xnl_r _ | exact xnl_n | exact Bool.toNat_lt _ | exact hb _ | exact hb2 _ | omega | exact Nat.le_of_ble_eq_true rfl | rfl | decide)) only [pL_digest_73, pL_digest_75, pL_digest_76, pL_digest_77, nI_add, pk_mul, xn_sub, xn_and, xn_or, xn_xor, xn_shl, xn_shr, xn_lt, xn_le, xn_eq, xrf_some, xup_eq, xup_ne, xrow_eq, xrow_ne, Option.toList_some, Option.toList_none, List.singleton_append, List.nil_append, List.cons_append, xnl_n, xnl_i, xnl_r, Nat.zero_add, Nat.add_zero, ↓reduceIte, Nat.reduceEqDiff, Nat.reduceLeDiff, Nat.reduceAdd, Nat.reduceMul, Nat.reduceLT, Nat.one_ne_zero, eq_self, not_true_eq_false, not_false_eq_true, and_self]
    rw [pL_digest_78 hx5 (Nat.le_of_ble_eq_true rfl)]
    refine d_of hk (by decide) hR hG (fun V1 hR1 o1 => ?_)
    rw [pofv_5]
    simp (disch := (first | assumption | exact xnl_i _ | exact xnl_r _ | exact xnl_n | exact Bool.toNat_lt _ | exact hb _ | exact hb2 _ | omega | exact Nat.le_of_ble_eq_true rfl | rfl | decide)) only [pL_digest_81, nI_add, pk_mul, xn_sub, xn_and, xn_or, xn_xor, xn_shl, xn_shr, xn_lt, xn_le, xn_eq, xrf_some, xup_eq, xup_ne, xrow_eq, xrow_ne, Option.toList_some, Option.toList_none, List.singleton_append, List.nil_append, List.cons_append, xnl_n, xnl_i, xnl_r, Nat.zero_add, Nat.add_zero, ↓reduceIte, Nat.reduceEqDiff, Nat.reduceLeDiff, Nat.reduceAdd, Nat.reduceMul, Nat.reduceLT, Nat.one_ne_zero, eq_self, not_true_eq_false, not_false_eq_true, and_self, hle]
    subst hi
    exact hQ V1 hR1 o1
  | succ n ih =>
    intro i V hn hR hQ
    have h : ¬ gσ g (62 * k + 4) ≤ i := by omega
    have hx5 := hR.1.1
    simp (disch := (first | assumption | exact xnl_i _ | exact xnl_r _ | exact xnl_n | exact Bool.toNat_lt _ | exact hb _ | exact hb2 _ | omega | exact Nat.le_of_ble_eq_true rfl | rfl | decide)) only [pL_digest_73, pL_digest_75, pL_digest_76, pL_digest_77, nI_add, pk_mul, xn_sub, xn_and, xn_or, xn_xor, xn_shl, xn_shr, xn_lt, xn_le, xn_eq, xrf_some, xup_eq, xup_ne, xrow_eq, xrow_ne, Option.toList_some, Option.toList_none, List.singleton_append, List.nil_append, List.cons_append, xnl_n, xnl_i, xnl_r, Nat.zero_add, Nat.add_zero, ↓reduceIte, Nat.reduceEqDiff, Nat.reduceLeDiff, Nat.reduceAdd, Nat.reduceMul, Nat.reduceLT, Nat.one_ne_zero, eq_self, not_true_eq_false, not_false_eq_true, and_self]
    rw [pL_digest_78 hx5 (Nat.le_of_ble_eq_true rfl)]
    refine d_of hk (by decide) hR hG (fun V1 hR1 o1 => ?_)
    rw [pofv_5]
    simp (disch := (first | assumption | exact xnl_i _ | exact xnl_r _ | exact xnl_n | exact Bool.toNat_lt _ | exact hb _ | exact hb2 _ | omega | exact Nat.le_of_ble_eq_true rfl | rfl | decide)) only [pL_digest_81, pL_digest_84, pL_digest_87, pL_digest_88, pL_digest_89, pL_digest_90, pL_digest_91, nI_add, pk_mul, xn_sub, xn_and, xn_or, xn_xor, xn_shl, xn_shr, xn_lt, xn_le, xn_eq, xrf_some, xup_eq, xup_ne, xrow_eq, xrow_ne, Option.toList_some, Option.toList_none, List.singleton_append, List.nil_append, List.cons_append, xnl_n, xnl_i, xnl_r, Nat.zero_add, Nat.add_zero, ↓reduceIte, Nat.reduceEqDiff, Nat.reduceLeDiff, Nat.reduceAdd, Nat.reduceMul, Nat.reduceLT, Nat.one_ne_zero, eq_self, not_true_eq_false, not_false_eq_true, and_self, h]
    rw [pL_digest_93 hx5 (Nat.le_of_ble_eq_true rfl)]
    refine d_inbox hk (by omega) hR1 hG (fun V2 hR2 o2 => ?_)
    simp (disch := (first | assumption | exact xnl_i _ | exact xnl_r _ | exact xnl_n | exact Bool.toNat_lt _ | exact hb _ | exact hb2 _ | omega | exact Nat.le_of_ble_eq_true rfl | rfl | decide)) only [pL_digest_96, pL_digest_97, pL_digest_98, pL_digest_99, pL_digest_102, nI_add, pk_mul, xn_sub, xn_and, xn_or, xn_xor, xn_shl, xn_shr, xn_lt, xn_le, xn_eq, xrf_some, xup_eq, xup_ne, xrow_eq, xrow_ne, Option.toList_some, Option.toList_none, List.singleton_append, List.nil_append, List.cons_append, xnl_n, xnl_i, xnl_r, Nat.zero_add, Nat.add_zero, ↓reduceIte, Nat.reduceEqDiff, Nat.reduceLeDiff, Nat.reduceAdd, Nat.reduceMul, Nat.reduceLT, Nat.one_ne_zero, eq_self, not_true_eq_false, not_false_eq_true, and_self]
    exact ih (i + 1) V2 (by omega) hR2 (fun V3 hR3 o3 => hQ V3 hR3 (tOut_t o1 (tOut_t o2 o3)))
theorem g_loop4 (hG : gG g) (hk : k < 8) (h0 : Int64) : ∀ n i V, i + n = gσ g (62 * k) → cRep S V x g → (∀ V', cRep S V' x g → tOut V V' x → xX E mL_digest 169 [some (.ref x), some (.long (dcm (gσ g) k (gσ g (62 * k)) h0)), none, some (.int (nI k)), some (.int (nI (gσ g (62 * k))))] [] S V' Q) → xX E mL_digest 108 [some (.ref x), some (.long (dcm (gσ g) k i h0)), none, some (.int (nI k)), some (.int (nI i))] [] S V Q := by
  have hb := wf_b (gs_wf hG.1)
  have hbk := hb (62 * k)
  intro n
  induction n with
  | zero =>
    intro i V hn hR hQ
    have hi : i = gσ g (62 * k) := by omega
    have hle : gσ g (62 * k) ≤ i := by omega
    have hx5 := hR.1.1
    simp (disch := (first | assumption | exact xnl_i _ | exact xnl_r _ | exact xnl_n | exact Bool.toNat_lt _ | exact hb _ | exact hb2 _ | omega | exact Nat.le_of_ble_eq_true rfl | rfl | decide)) only [pL_digest_108, pL_digest_110, pL_digest_111, pL_digest_112, nI_add, pk_mul, xn_sub, xn_and, xn_or, xn_xor, xn_shl, xn_shr, xn_lt, xn_le, xn_eq, xrf_some, xup_eq, xup_ne, xrow_eq, xrow_ne, Option.toList_some, Option.toList_none, List.singleton_append, List.nil_append, List.cons_append, xnl_n, xnl_i, xnl_r, Nat.zero_add, Nat.add_zero, ↓reduceIte, Nat.reduceEqDiff, Nat.reduceLeDiff, Nat.reduceAdd, Nat.reduceMul, Nat.reduceLT, Nat.one_ne_zero, eq_self, not_true_eq_false, not_false_eq_true, and_self]
    rw [pL_digest_113 hx5 (Nat.le_of_ble_eq_true rfl)]
    refine d_of hk (by decide) hR hG (fun V1 hR1 o1 => ?_)
    rw [pofv_0]
    simp (disch := (first | assumption | exact xnl_i _ | exact xnl_r _ | exact xnl_n | exact Bool.toNat_lt _ | exact hb _ | exact hb2 _ | omega | exact Nat.le_of_ble_eq_true rfl | rfl | decide)) only [pL_digest_116, nI_add, pk_mul, xn_sub, xn_and, xn_or, xn_xor, xn_shl, xn_shr, xn_lt, xn_le, xn_eq, xrf_some, xup_eq, xup_ne, xrow_eq, xrow_ne, Option.toList_some, Option.toList_none, List.singleton_append, List.nil_append, List.cons_append, xnl_n, xnl_i, xnl_r, Nat.zero_add, Nat.add_zero, ↓reduceIte, Nat.reduceEqDiff, Nat.reduceLeDiff, Nat.reduceAdd, Nat.reduceMul, Nat.reduceLT, Nat.one_ne_zero, eq_self, not_true_eq_false, not_false_eq_true, and_self, hle]
    subst hi
    exact hQ V1 hR1 o1
  | succ n ih =>
    intro i V hn hR hQ
    have h : ¬ gσ g (62 * k) ≤ i := by omega
    have hx5 := hR.1.1
    simp (disch := (first | assumption | exact xnl_i _ | exact xnl_r _ | exact xnl_n | exact Bool.toNat_lt _ | exact hb _ | exact hb2 _ | omega | exact Nat.le_of_ble_eq_true rfl | rfl | decide)) only [pL_digest_108, pL_digest_110, pL_digest_111, pL_digest_112, nI_add, pk_mul, xn_sub, xn_and, xn_or, xn_xor, xn_shl, xn_shr, xn_lt, xn_le, xn_eq, xrf_some, xup_eq, xup_ne, xrow_eq, xrow_ne, Option.toList_some, Option.toList_none, List.singleton_append, List.nil_append, List.cons_append, xnl_n, xnl_i, xnl_r, Nat.zero_add, Nat.add_zero, ↓reduceIte, Nat.reduceEqDiff, Nat.reduceLeDiff, Nat.reduceAdd, Nat.reduceMul, Nat.reduceLT, Nat.one_ne_zero, eq_self, not_true_eq_false, not_false_eq_true, and_self]
    rw [pL_digest_113 hx5 (Nat.le_of_ble_eq_true rfl)]
    refine d_of hk (by decide) hR hG (fun V1 hR1 o1 => ?_)
    rw [pofv_0]
    simp (disch := (first | assumption | exact xnl_i _ | exact xnl_r _ | exact xnl_n | exact Bool.toNat_lt _ | exact hb _ | exact hb2 _ | omega | exact Nat.le_of_ble_eq_true rfl | rfl | decide)) only [pL_digest_116, pL_digest_119, pL_digest_122, pL_digest_125, pL_digest_128, pL_digest_129, pL_digest_130, pL_digest_131, pL_digest_132, pL_digest_134, nI_add, pk_mul, xn_sub, xn_and, xn_or, xn_xor, xn_shl, xn_shr, xn_lt, xn_le, xn_eq, xrf_some, xup_eq, xup_ne, xrow_eq, xrow_ne, Option.toList_some, Option.toList_none, List.singleton_append, List.nil_append, List.cons_append, xnl_n, xnl_i, xnl_r, Nat.zero_add, Nat.add_zero, ↓reduceIte, Nat.reduceEqDiff, Nat.reduceLeDiff, Nat.reduceAdd, Nat.reduceMul, Nat.reduceLT, Nat.one_ne_zero, eq_self, not_true_eq_false, not_false_eq_true, and_self, h]
    rw [pL_digest_135 hx5 (Nat.le_of_ble_eq_true rfl)]
    refine d_command hk (show i < gσ g (62 * k) by omega) (by decide) hR1 hG (fun V2 hR2 o2 => ?_)
    simp (disch := (first | assumption | exact xnl_i _ | exact xnl_r _ | exact xnl_n | exact Bool.toNat_lt _ | exact hb _ | exact hb2 _ | omega | exact Nat.le_of_ble_eq_true rfl | rfl | decide)) only [pL_digest_138, pL_digest_139, pL_digest_140, pL_digest_141, pL_digest_142, pL_digest_143, pL_digest_145, nI_add, pk_mul, xn_and, xn_or, xn_xor, xn_shl, xn_shr, xn_lt, xn_le, xn_eq, xrf_some, xup_eq, xup_ne, xrow_eq, xrow_ne, Option.toList_some, Option.toList_none, List.singleton_append, List.nil_append, List.cons_append, xnl_n, xnl_i, xnl_r, Nat.zero_add, Nat.add_zero, ↓reduceIte, Nat.reduceEqDiff, Nat.reduceLeDiff, Nat.reduceAdd, Nat.reduceMul, Nat.reduceLT, Nat.one_ne_zero, eq_self, not_true_eq_false, not_false_eq_true, and_self]
    rw [pL_digest_146 hx5 (Nat.le_of_ble_eq_true rfl)]
    refine d_command hk (show i < gσ g (62 * k) by omega) (by decide) hR2 hG (fun V3 hR3 o3 => ?_)
    simp (disch := (first | assumption | exact xnl_i _ | exact xnl_r _ | exact xnl_n | exact Bool.toNat_lt _ | exact hb _ | exact hb2 _ | omega | exact Nat.le_of_ble_eq_true rfl | rfl | decide)) only [pL_digest_149, pL_digest_150, pL_digest_151, pL_digest_152, pL_digest_153, pL_digest_154, pL_digest_156, nI_add, pk_mul, xn_and, xn_or, xn_xor, xn_shl, xn_shr, xn_lt, xn_le, xn_eq, xrf_some, xup_eq, xup_ne, xrow_eq, xrow_ne, Option.toList_some, Option.toList_none, List.singleton_append, List.nil_append, List.cons_append, xnl_n, xnl_i, xnl_r, Nat.zero_add, Nat.add_zero, ↓reduceIte, Nat.reduceEqDiff, Nat.reduceLeDiff, Nat.reduceAdd, Nat.reduceMul, Nat.reduceLT, Nat.one_ne_zero, eq_self, not_true_eq_false, not_false_eq_true, and_self]
    rw [pL_digest_157 hx5 (Nat.le_of_ble_eq_true rfl)]
    refine d_command hk (show i < gσ g (62 * k) by omega) (by decide) hR3 hG (fun V4 hR4 o4 => ?_)
    simp (disch := (first | assumption | exact xnl_i _ | exact xnl_r _ | exact xnl_n | exact Bool.toNat_lt _ | exact hb _ | exact hb2 _ | omega | exact Nat.le_of_ble_eq_true rfl | rfl | decide)) only [pL_digest_160, pL_digest_161, pL_digest_162, pL_digest_163, pL_digest_166, nI_add, pk_mul, xn_and, xn_or, xn_xor, xn_shl, xn_shr, xn_lt, xn_le, xn_eq, xrf_some, xup_eq, xup_ne, xrow_eq, xrow_ne, Option.toList_some, Option.toList_none, List.singleton_append, List.nil_append, List.cons_append, xnl_n, xnl_i, xnl_r, Nat.zero_add, Nat.add_zero, ↓reduceIte, Nat.reduceEqDiff, Nat.reduceLeDiff, Nat.reduceAdd, Nat.reduceMul, Nat.reduceLT, Nat.one_ne_zero, eq_self, not_true_eq_false, not_false_eq_true, and_self]
    exact ih (i + 1) V4 (by omega) hR4 (fun V5 hR5 o5 => hQ V5 hR5 (tOut_t o1 (tOut_t o2 (tOut_t o3 (tOut_t o4 o5)))))
theorem g_loop5 (hG : gG g) (h0 : Int64) : ∀ n k V l4, k + n = 8 → cRep S V x g → (∀ V' l4, cRep S V' x g → tOut V V' x → xX E mL_digest 175 [some (.ref x), some (.long (dctx (gσ g) 8 h0)), none, some (.int (nI 8)), l4] [] S V' Q) → xX E mL_digest 33 [some (.ref x), some (.long (dctx (gσ g) k h0)), none, some (.int (nI k)), l4] [] S V Q := by
  intro n
  induction n with
  | zero =>
    intro k V l4 hn hR hQ
    have hi : k = 8 := by omega
    subst hi
    simp (disch := (first | assumption | exact xnl_i _ | exact xnl_r _ | exact xnl_n | exact Bool.toNat_lt _ | exact hb _ | exact hb2 _ | omega | exact Nat.le_of_ble_eq_true rfl | rfl | decide)) only [pL_digest_33, pL_digest_34, pL_digest_36, nI_add, pk_mul, xn_sub, xn_and, xn_or, xn_xor, xn_shl, xn_shr, xn_lt, xn_le, xn_eq, xrf_some, xup_eq, xup_ne, xrow_eq, xrow_ne, Option.toList_some, Option.toList_none, List.singleton_append, List.nil_append, List.cons_append, xnl_n, xnl_i, xnl_r, Nat.zero_add, Nat.add_zero, ↓reduceIte, Nat.reduceEqDiff, Nat.reduceLeDiff, Nat.reduceAdd, Nat.reduceMul, Nat.reduceLT, Nat.one_ne_zero, eq_self, not_true_eq_false, not_false_eq_true, and_self]
    exact hQ V l4 hR tOut_r
  | succ n ih =>
    intro k V l4 hn hR hQ
    have h : ¬ 8 ≤ k := by omega
    have hk : k < 8 := by omega
    simp (disch := (first | assumption | exact xnl_i _ | exact xnl_r _ | exact xnl_n | exact Bool.toNat_lt _ | exact hb _ | exact hb2 _ | omega | exact Nat.le_of_ble_eq_true rfl | rfl | decide)) only [pL_digest_33, pL_digest_34, pL_digest_36, pL_digest_39, pL_digest_40, nI_add, pk_mul, xn_sub, xn_and, xn_or, xn_xor, xn_shl, xn_shr, xn_lt, xn_le, xn_eq, xrf_some, xup_eq, xup_ne, xrow_eq, xrow_ne, Option.toList_some, Option.toList_none, List.singleton_append, List.nil_append, List.cons_append, xnl_n, xnl_i, xnl_r, Nat.zero_add, Nat.add_zero, ↓reduceIte, Nat.reduceEqDiff, Nat.reduceLeDiff, Nat.reduceAdd, Nat.reduceMul, Nat.reduceLT, Nat.one_ne_zero, eq_self, not_true_eq_false, not_false_eq_true, and_self, h]
    refine g_loop2 hG hk (dctx (gσ g) k h0) 14 0 V rfl hR (fun V1 hR1 o1 => ?_)
    simp (disch := (first | assumption | exact xnl_i _ | exact xnl_r _ | exact xnl_n | exact Bool.toNat_lt _ | exact hb _ | exact hb2 _ | omega | exact Nat.le_of_ble_eq_true rfl | rfl | decide)) only [pL_digest_70, pL_digest_71, nI_add, pk_mul, xn_sub, xn_and, xn_or, xn_xor, xn_shl, xn_shr, xn_lt, xn_le, xn_eq, xrf_some, xup_eq, xup_ne, xrow_eq, xrow_ne, Option.toList_some, Option.toList_none, List.singleton_append, List.nil_append, List.cons_append, xnl_n, xnl_i, xnl_r, Nat.zero_add, Nat.add_zero, ↓reduceIte, Nat.reduceEqDiff, Nat.reduceLeDiff, Nat.reduceAdd, Nat.reduceMul, Nat.reduceLT, Nat.one_ne_zero, eq_self, not_true_eq_false, not_false_eq_true, and_self]
    refine g_loop3 hG hk (dof (gσ g) k 14 (dctx (gσ g) k h0)) (gσ g (62 * k + 4)) 0 V1 (Nat.zero_add _) hR1 (fun V2 hR2 o2 => ?_)
    simp (disch := (first | assumption | exact xnl_i _ | exact xnl_r _ | exact xnl_n | exact Bool.toNat_lt _ | exact hb _ | exact hb2 _ | omega | exact Nat.le_of_ble_eq_true rfl | rfl | decide)) only [pL_digest_105, pL_digest_106, nI_add, pk_mul, xn_sub, xn_and, xn_or, xn_xor, xn_shl, xn_shr, xn_lt, xn_le, xn_eq, xrf_some, xup_eq, xup_ne, xrow_eq, xrow_ne, Option.toList_some, Option.toList_none, List.singleton_append, List.nil_append, List.cons_append, xnl_n, xnl_i, xnl_r, Nat.zero_add, Nat.add_zero, ↓reduceIte, Nat.reduceEqDiff, Nat.reduceLeDiff, Nat.reduceAdd, Nat.reduceMul, Nat.reduceLT, Nat.one_ne_zero, eq_self, not_true_eq_false, not_false_eq_true, and_self]
    refine g_loop4 hG hk (din (gσ g) k (gσ g (62 * k + 4)) (dof (gσ g) k 14 (dctx (gσ g) k h0))) (gσ g (62 * k)) 0 V2 (Nat.zero_add _) hR2 (fun V3 hR3 o3 => ?_)
    simp (disch := (first | assumption | exact xnl_i _ | exact xnl_r _ | exact xnl_n | exact Bool.toNat_lt _ | exact hb _ | exact hb2 _ | omega | exact Nat.le_of_ble_eq_true rfl | rfl | decide)) only [pL_digest_169, pL_digest_172, nI_add, pk_mul, xn_sub, xn_and, xn_or, xn_xor, xn_shl, xn_shr, xn_lt, xn_le, xn_eq, xrf_some, xup_eq, xup_ne, xrow_eq, xrow_ne, Option.toList_some, Option.toList_none, List.singleton_append, List.nil_append, List.cons_append, xnl_n, xnl_i, xnl_r, Nat.zero_add, Nat.add_zero, ↓reduceIte, Nat.reduceEqDiff, Nat.reduceLeDiff, Nat.reduceAdd, Nat.reduceMul, Nat.reduceLT, Nat.one_ne_zero, eq_self, not_true_eq_false, not_false_eq_true, and_self]
    exact ih (k + 1) V3 _ (by omega) hR3 (fun V4 l4 hR4 o4 => hQ V4 l4 hR4 (tOut_t o1 (tOut_t o2 (tOut_t o3 o4))))
theorem g_loop6 (hG : gG g) (h0 : Int64) : ∀ n i V l4, i + n = 4 → cRep S V x g → (∀ V', cRep S V' x g → tOut V V' x → xX E mL_digest 201 [some (.ref x), some (.long (dlk (gσ g) 4 h0)), none, some (.int (nI 4)), l4] [] S V' Q) → xX E mL_digest 177 [some (.ref x), some (.long (dlk (gσ g) i h0)), none, some (.int (nI i)), l4] [] S V Q := by
  intro n
  induction n with
  | zero =>
    intro i V l4 hn hR hQ
    have hi : i = 4 := by omega
    subst hi
    simp (disch := (first | assumption | exact xnl_i _ | exact xnl_r _ | exact xnl_n | exact Bool.toNat_lt _ | exact hb _ | exact hb2 _ | omega | exact Nat.le_of_ble_eq_true rfl | rfl | decide)) only [pL_digest_177, pL_digest_178, pL_digest_179, nI_add, pk_mul, xn_sub, xn_and, xn_or, xn_xor, xn_shl, xn_shr, xn_lt, xn_le, xn_eq, xrf_some, xup_eq, xup_ne, xrow_eq, xrow_ne, Option.toList_some, Option.toList_none, List.singleton_append, List.nil_append, List.cons_append, xnl_n, xnl_i, xnl_r, Nat.zero_add, Nat.add_zero, ↓reduceIte, Nat.reduceEqDiff, Nat.reduceLeDiff, Nat.reduceAdd, Nat.reduceMul, Nat.reduceLT, Nat.one_ne_zero, eq_self, not_true_eq_false, not_false_eq_true, and_self]
    exact hQ V hR tOut_r
  | succ n ih =>
    intro i V l4 hn hR hQ
    have h : ¬ 4 ≤ i := by omega
    have hx5 := hR.1.1
    simp (disch := (first | assumption | exact xnl_i _ | exact xnl_r _ | exact xnl_n | exact Bool.toNat_lt _ | exact hb _ | exact hb2 _ | omega | exact Nat.le_of_ble_eq_true rfl | rfl | decide)) only [pL_digest_177, pL_digest_178, pL_digest_179, pL_digest_182, pL_digest_185, pL_digest_186, pL_digest_187, pL_digest_188, nI_add, pk_mul, xn_sub, xn_and, xn_or, xn_xor, xn_shl, xn_shr, xn_lt, xn_le, xn_eq, xrf_some, xup_eq, xup_ne, xrow_eq, xrow_ne, Option.toList_some, Option.toList_none, List.singleton_append, List.nil_append, List.cons_append, xnl_n, xnl_i, xnl_r, Nat.zero_add, Nat.add_zero, ↓reduceIte, Nat.reduceEqDiff, Nat.reduceLeDiff, Nat.reduceAdd, Nat.reduceMul, Nat.reduceLT, Nat.one_ne_zero, eq_self, not_true_eq_false, not_false_eq_true, and_self, h]
    rw [pL_digest_189 hx5 (Nat.le_of_ble_eq_true rfl)]
    refine d_holder (by omega) hR hG (fun V1 hR1 o1 => ?_)
    simp (disch := (first | assumption | exact xnl_i _ | exact xnl_r _ | exact xnl_n | exact Bool.toNat_lt _ | exact hb _ | exact hb2 _ | omega | exact Nat.le_of_ble_eq_true rfl | rfl | decide)) only [pL_digest_192, pL_digest_193, pL_digest_194, pL_digest_195, pL_digest_198, nI_add, pk_mul, xn_sub, xn_and, xn_or, xn_xor, xn_shl, xn_shr, xn_lt, xn_le, xn_eq, xrf_some, xup_eq, xup_ne, xrow_eq, xrow_ne, Option.toList_some, Option.toList_none, List.singleton_append, List.nil_append, List.cons_append, xnl_n, xnl_i, xnl_r, Nat.zero_add, Nat.add_zero, ↓reduceIte, Nat.reduceEqDiff, Nat.reduceLeDiff, Nat.reduceAdd, Nat.reduceMul, Nat.reduceLT, Nat.one_ne_zero, eq_self, not_true_eq_false, not_false_eq_true, and_self]
    exact ih (i + 1) V1 l4 (by omega) hR1 (fun V2 hR2 o2 => hQ V2 hR2 (tOut_t o1 o2))
theorem c_digest (hR : cRep S V x g) (hG : gG g) (hQ : ∀ V', cRep S V' x g → tOut V V' x → Q (some (.long (dig (gσ g)))) S V') : xC E mL_digest [.ref x] S V Q := by
  show xX E mL_digest 0 [some (.ref x), none, none, none, none] [] S V Q
  simp (disch := (first | assumption | exact xnl_i _ | exact xnl_r _ | exact xnl_n | exact Bool.toNat_lt _ | exact hb _ | exact hb2 _ | omega | exact Nat.le_of_ble_eq_true rfl | rfl | decide)) only [pL_digest_0, pL_digest_3, pL_digest_4, pL_digest_5, nI_add, pk_mul, xn_sub, xn_and, xn_or, xn_xor, xn_shl, xn_shr, xn_lt, xn_le, xn_eq, xrf_some, xup_eq, xup_ne, xrow_eq, xrow_ne, Option.toList_some, Option.toList_none, List.singleton_append, List.nil_append, List.cons_append, xnl_n, xnl_i, xnl_r, Nat.zero_add, Nat.add_zero, ↓reduceIte, Nat.reduceEqDiff, Nat.reduceLeDiff, Nat.reduceAdd, Nat.reduceMul, Nat.reduceLT, Nat.one_ne_zero, eq_self, not_true_eq_false, not_false_eq_true, and_self]
  refine g_loop1 hG 8 0 V none rfl hR (fun V1 hR1 o1 => ?_)
  simp (disch := (first | assumption | exact xnl_i _ | exact xnl_r _ | exact xnl_n | exact Bool.toNat_lt _ | exact hb _ | exact hb2 _ | omega | exact Nat.le_of_ble_eq_true rfl | rfl | decide)) only [pL_digest_31, pL_digest_32, nI_add, pk_mul, xn_sub, xn_and, xn_or, xn_xor, xn_shl, xn_shr, xn_lt, xn_le, xn_eq, xrf_some, xup_eq, xup_ne, xrow_eq, xrow_ne, Option.toList_some, Option.toList_none, List.singleton_append, List.nil_append, List.cons_append, xnl_n, xnl_i, xnl_r, Nat.zero_add, Nat.add_zero, ↓reduceIte, Nat.reduceEqDiff, Nat.reduceLeDiff, Nat.reduceAdd, Nat.reduceMul, Nat.reduceLT, Nat.one_ne_zero, eq_self, not_true_eq_false, not_false_eq_true, and_self]
  refine g_loop5 hG (dcnt (gσ g) 8 (lN 3)) 8 0 V1 none rfl hR1 (fun V2 l4 hR2 o2 => ?_)
  simp (disch := (first | assumption | exact xnl_i _ | exact xnl_r _ | exact xnl_n | exact Bool.toNat_lt _ | exact hb _ | exact hb2 _ | omega | exact Nat.le_of_ble_eq_true rfl | rfl | decide)) only [pL_digest_175, pL_digest_176, nI_add, pk_mul, xn_sub, xn_and, xn_or, xn_xor, xn_shl, xn_shr, xn_lt, xn_le, xn_eq, xrf_some, xup_eq, xup_ne, xrow_eq, xrow_ne, Option.toList_some, Option.toList_none, List.singleton_append, List.nil_append, List.cons_append, xnl_n, xnl_i, xnl_r, Nat.zero_add, Nat.add_zero, ↓reduceIte, Nat.reduceEqDiff, Nat.reduceLeDiff, Nat.reduceAdd, Nat.reduceMul, Nat.reduceLT, Nat.one_ne_zero, eq_self, not_true_eq_false, not_false_eq_true, and_self]
  refine g_loop6 hG (dctx (gσ g) 8 (dcnt (gσ g) 8 (lN 3))) 4 0 V2 l4 rfl hR2 (fun V3 hR3 o3 => ?_)
  simp (disch := (first | assumption | exact xnl_i _ | exact xnl_r _ | exact xnl_n | exact Bool.toNat_lt _ | exact hb _ | exact hb2 _ | omega | exact Nat.le_of_ble_eq_true rfl | rfl | decide)) only [pL_digest_201, pL_digest_202, nI_add, pk_mul, xn_sub, xn_and, xn_or, xn_xor, xn_shl, xn_shr, xn_lt, xn_le, xn_eq, xrf_some, xup_eq, xup_ne, xrow_eq, xrow_ne, Option.toList_some, Option.toList_none, List.singleton_append, List.nil_append, List.cons_append, xnl_n, xnl_i, xnl_r, Nat.zero_add, Nat.add_zero, ↓reduceIte, Nat.reduceEqDiff, Nat.reduceLeDiff, Nat.reduceAdd, Nat.reduceMul, Nat.reduceLT, Nat.one_ne_zero, eq_self, not_true_eq_false, not_false_eq_true, and_self]
  exact hQ V3 hR3 (tOut_t o1 (tOut_t o2 o3))
end DGS
