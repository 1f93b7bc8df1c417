/-! ===== the law: its turns ===== -/
theorem lcmp_self (u : Int64) : lg_cmp u u = nI 0 := (lg_cmp_eq u u).mpr rfl
section LAW
variable {E : Nat × Nat × Nat} {S : xSh} {V V' : xV} {Q : Option Value → xSh → xV → Prop} {x b L i : Nat} {g : pG} {v w r : Int32} {d : Int64} {l0v : Value} {l0 l2 l3 l4 l5 l6 l7 l8 l9 l10 l11 l12 l13 l14 : Option Value}
theorem oRep_o (h : oRep E S V x) (ho : ∀ b, b < x → V' b = V b) : oRep E S V' x := by
  obtain ⟨lk, ll, lv, gk, gl, gv, l1, l2⟩ := h
  exact ⟨lk, ll, fun k hk => by rw [ho _ l1]; exact lv k hk, gk, gl, fun k hk => by rw [ho _ l2]; exact gv k hk, l1, l2⟩
theorem oRep_t (h : oRep E S V x) (ho : tOut V V' x) : oRep E S V' x := oRep_o h (fun a ha => ho a (Or.inl ha))
theorem w_in (hkb : xkd S b = 14) (hL : xln S b = L) (hL31 : L < 2147483648) (hR : cRep S V x g) (hG : gG g) (hO : oRep E S V x) (hi : i < 30) (hQ : ∀ (v w : Int32) (F : pG → pR), actOk E v w F → ∀ V', cRep S V' x (F g).2 → tOut V V' x → xX E mL_law 104 [some (.ref b), some (.ref x), l2, l3, some (.int (nI i)), some (.int v), some (.int w), some (.long (dig (gσ g))), none, some (.int (nI (gu g))), some (.int (F g).1), some (.long (dig (gσ (F g).2))), none, l13, l14] [] S V' Q) : xX E mL_law 45 [some (.ref b), some (.ref x), l2, l3, some (.int (nI i)), l5, l6, l7, l8, l9, l10, l11, l12, l13, l14] [] S V Q := by
  have hx5 := hR.1.1
  have h30 : ¬ 30 ≤ i := by omega
  obtain ⟨v, hv⟩ := s_cell (E := E) (S := S) (V := V) (b := b) (L := L) (i := 2 * i) hkb hL hL31 (by omega)
  obtain ⟨w, hw⟩ := s_cell (E := E) (S := S) (V := V) (b := b) (L := L) (i := 2 * i + 1) hkb hL hL31 (by omega)
  obtain ⟨F, hF⟩ := act_ex (E := E) v w
  simp (disch := (first | assumption | exact xnl_i _ | exact xnl_r _ | exact xnl_n | exact Bool.toNat_lt _ | exact hb _ | exact hb2 _ | omega | exact Nat.le_of_ble_eq_true rfl | rfl | decide)) only [pL_law_45, pL_law_47, pL_law_49, pL_law_52, pL_law_53, pL_law_54, pL_law_56, nI_add, pk_mul, xn_sub, xn_and, xn_or, xn_xor, xn_shl, xn_shr, xn_lt, xn_le, xn_eq, xrf_some, xup_eq, xup_ne, xrow_eq, xrow_ne, Option.toList_some, Option.toList_none, List.singleton_append, List.nil_append, List.cons_append, xnl_n, xnl_i, xnl_r, Nat.zero_add, Nat.add_zero, ↓reduceIte, Nat.reduceEqDiff, Nat.reduceLeDiff, Nat.reduceAdd, Nat.reduceMul, Nat.reduceLT, Nat.one_ne_zero, eq_self, not_true_eq_false, not_false_eq_true, and_self, h30]
  rw [pL_law_57 (Nat.le_of_ble_eq_true rfl), hv]
  simp (disch := (first | assumption | exact xnl_i _ | exact xnl_r _ | exact xnl_n | exact Bool.toNat_lt _ | exact hb _ | exact hb2 _ | omega | exact Nat.le_of_ble_eq_true rfl | rfl | decide)) only [pL_law_60, pL_law_62, pL_law_63, pL_law_64, pL_law_66, pL_law_67, pL_law_68, nI_add, pk_mul, xn_sub, xn_and, xn_or, xn_xor, xn_shl, xn_shr, xn_lt, xn_le, xn_eq, xrf_some, xup_eq, xup_ne, xrow_eq, xrow_ne, Option.toList_some, Option.toList_none, List.singleton_append, List.nil_append, List.cons_append, xnl_n, xnl_i, xnl_r, Nat.zero_add, Nat.add_zero, ↓reduceIte, Nat.reduceEqDiff, Nat.reduceLeDiff, Nat.reduceAdd, Nat.reduceMul, Nat.reduceLT, Nat.one_ne_zero, eq_self, not_true_eq_false, not_false_eq_true, and_self]
  rw [pL_law_69 (Nat.le_of_ble_eq_true rfl), hw]
  simp (disch := (first | assumption | exact xnl_i _ | exact xnl_r _ | exact xnl_n | exact Bool.toNat_lt _ | exact hb _ | exact hb2 _ | omega | exact Nat.le_of_ble_eq_true rfl | rfl | decide)) only [pL_law_72, pL_law_74, nI_add, pk_mul, xn_sub, xn_and, xn_or, xn_xor, xn_shl, xn_shr, xn_lt, xn_le, xn_eq, xrf_some, xup_eq, xup_ne, xrow_eq, xrow_ne, Option.toList_some, Option.toList_none, List.singleton_append, List.nil_append, List.cons_append, xnl_n, xnl_i, xnl_r, Nat.zero_add, Nat.add_zero, ↓reduceIte, Nat.reduceEqDiff, Nat.reduceLeDiff, Nat.reduceAdd, Nat.reduceMul, Nat.reduceLT, Nat.one_ne_zero, eq_self, not_true_eq_false, not_false_eq_true, and_self]
  rw [pL_law_75 (Nat.le_of_ble_eq_true rfl)]
  refine c_digest hR hG (fun V1 hR1 o1 => ?_)
  simp (disch := (first | assumption | exact xnl_i _ | exact xnl_r _ | exact xnl_n | exact Bool.toNat_lt _ | exact hb _ | exact hb2 _ | omega | exact Nat.le_of_ble_eq_true rfl | rfl | decide)) only [pL_law_78, pL_law_80, pL_law_81, nI_add, pk_mul, xn_sub, xn_and, xn_or, xn_xor, xn_shl, xn_shr, xn_lt, xn_le, xn_eq, xrf_some, xup_eq, xup_ne, xrow_eq, xrow_ne, Option.toList_some, Option.toList_none, List.singleton_append, List.nil_append, List.cons_append, xnl_n, xnl_i, xnl_r, Nat.zero_add, Nat.add_zero, ↓reduceIte, Nat.reduceEqDiff, Nat.reduceLeDiff, Nat.reduceAdd, Nat.reduceMul, Nat.reduceLT, Nat.one_ne_zero, eq_self, not_true_eq_false, not_false_eq_true, and_self]
  rw [pL_law_83 hx5 (Nat.le_of_ble_eq_true rfl)]
  refine d_count (by decide) hR1 hG (fun V2 hR2 o2 => ?_)
  rw [pcountv_9]
  simp (disch := (first | assumption | exact xnl_i _ | exact xnl_r _ | exact xnl_n | exact Bool.toNat_lt _ | exact hb _ | exact hb2 _ | omega | exact Nat.le_of_ble_eq_true rfl | rfl | decide)) only [pL_law_86, pL_law_88, pL_law_89, pL_law_91, nI_add, pk_mul, xn_sub, xn_and, xn_or, xn_xor, xn_shl, xn_shr, xn_lt, xn_le, xn_eq, xrf_some, xup_eq, xup_ne, xrow_eq, xrow_ne, Option.toList_some, Option.toList_none, List.singleton_append, List.nil_append, List.cons_append, xnl_n, xnl_i, xnl_r, Nat.zero_add, Nat.add_zero, ↓reduceIte, Nat.reduceEqDiff, Nat.reduceLeDiff, Nat.reduceAdd, Nat.reduceMul, Nat.reduceLT, Nat.one_ne_zero, eq_self, not_true_eq_false, not_false_eq_true, and_self]
  rw [pL_law_93 (Nat.le_of_ble_eq_true rfl)]
  refine hF.2 S V2 _ x g hR2 hG (oRep_t hO (tOut_t o1 o2)) (fun V3 hR3 o3 => ?_)
  simp (disch := (first | assumption | exact xnl_i _ | exact xnl_r _ | exact xnl_n | exact Bool.toNat_lt _ | exact hb _ | exact hb2 _ | omega | exact Nat.le_of_ble_eq_true rfl | rfl | decide)) only [pL_law_96, pL_law_98, nI_add, pk_mul, xn_sub, xn_and, xn_or, xn_xor, xn_shl, xn_shr, xn_lt, xn_le, xn_eq, xrf_some, xup_eq, xup_ne, xrow_eq, xrow_ne, Option.toList_some, Option.toList_none, List.singleton_append, List.nil_append, List.cons_append, xnl_n, xnl_i, xnl_r, Nat.zero_add, Nat.add_zero, ↓reduceIte, Nat.reduceEqDiff, Nat.reduceLeDiff, Nat.reduceAdd, Nat.reduceMul, Nat.reduceLT, Nat.one_ne_zero, eq_self, not_true_eq_false, not_false_eq_true, and_self]
  rw [pL_law_99 (Nat.le_of_ble_eq_true rfl)]
  refine c_digest hR3 (op_keep hF.1 hG) (fun V4 hR4 o4 => ?_)
  simp (disch := (first | assumption | exact xnl_i _ | exact xnl_r _ | exact xnl_n | exact Bool.toNat_lt _ | exact hb _ | exact hb2 _ | omega | exact Nat.le_of_ble_eq_true rfl | rfl | decide)) only [pL_law_102, nI_add, pk_mul, xn_sub, xn_and, xn_or, xn_xor, xn_shl, xn_shr, xn_lt, xn_le, xn_eq, xrf_some, xup_eq, xup_ne, xrow_eq, xrow_ne, Option.toList_some, Option.toList_none, List.singleton_append, List.nil_append, List.cons_append, xnl_n, xnl_i, xnl_r, Nat.zero_add, Nat.add_zero, ↓reduceIte, Nat.reduceEqDiff, Nat.reduceLeDiff, Nat.reduceAdd, Nat.reduceMul, Nat.reduceLT, Nat.one_ne_zero, eq_self, not_true_eq_false, not_false_eq_true, and_self]
  exact hQ v w F hF V4 hR4 (tOut_t o1 (tOut_t o2 (tOut_t o3 o4)))
theorem w_err (hr : isErr r) (hR : cRep S V x g) (hG : gG g) (hQ : ∀ V', cRep S V' x g → tOut V V' x → xX E mL_law 247 [l0, some (.ref x), l2, l3, l4, l5, l6, some (.long d), none, some (.int (nI (gu g))), some (.int r), some (.long d), none, some (.int (nI 1)), l14] [] S V' Q) : xX E mL_law 104 [l0, some (.ref x), l2, l3, l4, l5, l6, some (.long d), none, some (.int (nI (gu g))), some (.int r), some (.long d), none, l13, l14] [] S V Q := by
  have hx5 := hR.1.1
  have h1 : ¬ nI 0 ≤ r := Int32.not_le.mpr hr.1
  have h2 : ¬ r = -6 := hr.2
  simp (disch := (first | assumption | exact xnl_i _ | exact xnl_r _ | exact xnl_n | exact Bool.toNat_lt _ | exact hb _ | exact hb2 _ | omega | exact Nat.le_of_ble_eq_true rfl | rfl | decide)) only [pL_law_104, pL_law_106, pL_law_109, pL_law_111, pL_law_113, pL_law_116, pL_law_117, pL_law_120, pL_law_121, pL_law_123, pL_law_125, pL_law_128, pL_law_130, pL_law_132, pL_law_133, pL_law_136, pL_law_137, nI_add, pk_mul, xn_sub, xn_and, xn_or, xn_xor, xn_shl, xn_shr, xn_lt, xn_le, xn_eq, xrf_some, xup_eq, xup_ne, xrow_eq, xrow_ne, Option.toList_some, Option.toList_none, List.singleton_append, List.nil_append, List.cons_append, xnl_n, xnl_i, xnl_r, Nat.zero_add, Nat.add_zero, ↓reduceIte, Nat.reduceEqDiff, Nat.reduceLeDiff, Nat.reduceAdd, Nat.reduceMul, Nat.reduceLT, Nat.one_ne_zero, eq_self, not_true_eq_false, not_false_eq_true, and_self, h1, h2, lcmp_self]
  rw [pL_law_139 hx5 (Nat.le_of_ble_eq_true rfl)]
  refine d_count (by decide) hR hG (fun V1 hR1 o1 => ?_)
  rw [pcountv_9]
  simp (disch := (first | assumption | exact xnl_i _ | exact xnl_r _ | exact xnl_n | exact Bool.toNat_lt _ | exact hb _ | exact hb2 _ | omega | exact Nat.le_of_ble_eq_true rfl | rfl | decide)) only [pL_law_142, pL_law_144, pL_law_177, pL_law_179, nI_add, pk_mul, xn_sub, xn_and, xn_or, xn_xor, xn_shl, xn_shr, xn_lt, xn_le, xn_eq, xrf_some, xup_eq, xup_ne, xrow_eq, xrow_ne, Option.toList_some, Option.toList_none, List.singleton_append, List.nil_append, List.cons_append, xnl_n, xnl_i, xnl_r, Nat.zero_add, Nat.add_zero, ↓reduceIte, Nat.reduceEqDiff, Nat.reduceLeDiff, Nat.reduceAdd, Nat.reduceMul, Nat.reduceLT, Nat.one_ne_zero, eq_self, not_true_eq_false, not_false_eq_true, and_self]
  exact hQ V1 hR1 o1
theorem w_ok {u : Nat} (hr : ¬ isErr r) (hu : u ≤ 6) (hg : gu g = if u = 6 then 6 else u + 1) (hR : cRep S V x g) (hG : gG g) (hQ : ∀ V', cRep S V' x g → tOut V V' x → xX E mL_law 177 [l0, some (.ref x), l2, l3, l4, l5, l6, l7, l8, some (.int (nI u)), some (.int r), l11, none, some (.int (nI 0)), l14] [] S V' Q) : xX E mL_law 104 [l0, some (.ref x), l2, l3, l4, l5, l6, l7, l8, some (.int (nI u)), some (.int r), l11, none, l13, l14] [] S V Q := by
  have hx5 := hR.1.1
  have hub : u < 2147483648 := by omega
  have head : xX E mL_law 104 [l0, some (.ref x), l2, l3, l4, l5, l6, l7, l8, some (.int (nI u)), some (.int r), l11, none, l13, l14] [] S V Q ↔ xX E mL_law 150 [l0, some (.ref x), l2, l3, l4, l5, l6, l7, l8, some (.int (nI u)), some (.int r), l11, none, some (.int (nI 0)), l14] [] S V Q := by
    by_cases h1 : nI 0 ≤ r
    · simp (disch := (first | assumption | exact xnl_i _ | exact xnl_r _ | exact xnl_n | exact Bool.toNat_lt _ | exact hb _ | exact hb2 _ | omega | exact Nat.le_of_ble_eq_true rfl | rfl | decide)) only [pL_law_104, pL_law_106, pL_law_109, pL_law_111, pL_law_113, pL_law_116, pL_law_117, pL_law_120, pL_law_121, pL_law_123, pL_law_125, nI_add, pk_mul, xn_sub, xn_and, xn_or, xn_xor, xn_shl, xn_shr, xn_lt, xn_le, xn_eq, xrf_some, xup_eq, xup_ne, xrow_eq, xrow_ne, Option.toList_some, Option.toList_none, List.singleton_append, List.nil_append, List.cons_append, xnl_n, xnl_i, xnl_r, Nat.zero_add, Nat.add_zero, ↓reduceIte, Nat.reduceEqDiff, Nat.reduceLeDiff, Nat.reduceAdd, Nat.reduceMul, Nat.reduceLT, Nat.one_ne_zero, eq_self, not_true_eq_false, not_false_eq_true, and_self, h1]
    · have h2 : r = -6 := Classical.byContradiction (fun z => hr ⟨Int32.not_le.mp h1, z⟩)
      subst h2
      simp (disch := (first | assumption | exact xnl_i _ | exact xnl_r _ | exact xnl_n | exact Bool.toNat_lt _ | exact hb _ | exact hb2 _ | omega | exact Nat.le_of_ble_eq_true rfl | rfl | decide)) only [pL_law_104, pL_law_106, pL_law_109, pL_law_111, pL_law_113, pL_law_116, pL_law_117, pL_law_120, pL_law_121, pL_law_123, pL_law_125, nI_add, pk_mul, xn_sub, xn_and, xn_or, xn_xor, xn_shl, xn_shr, xn_lt, xn_le, xn_eq, xrf_some, xup_eq, xup_ne, xrow_eq, xrow_ne, Option.toList_some, Option.toList_none, List.singleton_append, List.nil_append, List.cons_append, xnl_n, xnl_i, xnl_r, Nat.zero_add, Nat.add_zero, ↓reduceIte, Nat.reduceEqDiff, Nat.reduceLeDiff, Nat.reduceAdd, Nat.reduceMul, Nat.reduceLT, Nat.one_ne_zero, eq_self, not_true_eq_false, not_false_eq_true, and_self, h1]
  rw [head]
  simp (disch := (first | assumption | exact xnl_i _ | exact xnl_r _ | exact xnl_n | exact Bool.toNat_lt _ | exact hb _ | exact hb2 _ | omega | exact Nat.le_of_ble_eq_true rfl | rfl | decide)) only [pL_law_150, pL_law_151, nI_add, pk_mul, xn_sub, xn_and, xn_or, xn_xor, xn_shl, xn_shr, xn_lt, xn_le, xn_eq, xrf_some, xup_eq, xup_ne, xrow_eq, xrow_ne, Option.toList_some, Option.toList_none, List.singleton_append, List.nil_append, List.cons_append, xnl_n, xnl_i, xnl_r, Nat.zero_add, Nat.add_zero, ↓reduceIte, Nat.reduceEqDiff, Nat.reduceLeDiff, Nat.reduceAdd, Nat.reduceMul, Nat.reduceLT, Nat.one_ne_zero, eq_self, not_true_eq_false, not_false_eq_true, and_self]
  rw [pL_law_153 hx5 (Nat.le_of_ble_eq_true rfl)]
  refine d_count (by decide) hR hG (fun V1 hR1 o1 => ?_)
  rw [pcountv_9, hg]
  by_cases h6 : u = 6
  · subst h6
    simp (disch := (first | assumption | exact xnl_i _ | exact xnl_r _ | exact xnl_n | exact Bool.toNat_lt _ | exact hb _ | exact hb2 _ | omega | exact Nat.le_of_ble_eq_true rfl | rfl | decide)) only [pL_law_156, pL_law_158, pL_law_160, pL_law_163, pL_law_165, pL_law_166, pL_law_167, pL_law_170, pL_law_172, nI_add, pk_mul, xn_sub, xn_and, xn_or, xn_xor, xn_shl, xn_shr, xn_lt, xn_le, xn_eq, xrf_some, xup_eq, xup_ne, xrow_eq, xrow_ne, Option.toList_some, Option.toList_none, List.singleton_append, List.nil_append, List.cons_append, xnl_n, xnl_i, xnl_r, Nat.zero_add, Nat.add_zero, ↓reduceIte, Nat.reduceEqDiff, Nat.reduceLeDiff, Nat.reduceAdd, Nat.reduceMul, Nat.reduceLT, Nat.one_ne_zero, eq_self, not_true_eq_false, not_false_eq_true, and_self]
    exact hQ V1 hR1 o1
  · rw [if_neg h6]
    have h66 : ¬ 6 ≤ u := by omega
    simp (disch := (first | assumption | exact xnl_i _ | exact xnl_r _ | exact xnl_n | exact Bool.toNat_lt _ | exact hb _ | exact hb2 _ | omega | exact Nat.le_of_ble_eq_true rfl | rfl | decide)) only [pL_law_156, pL_law_158, pL_law_160, pL_law_163, pL_law_165, pL_law_166, pL_law_167, pL_law_170, pL_law_172, nI_add, pk_mul, xn_sub, xn_and, xn_or, xn_xor, xn_shl, xn_shr, xn_lt, xn_le, xn_eq, xrf_some, xup_eq, xup_ne, xrow_eq, xrow_ne, Option.toList_some, Option.toList_none, List.singleton_append, List.nil_append, List.cons_append, xnl_n, xnl_i, xnl_r, Nat.zero_add, Nat.add_zero, ↓reduceIte, Nat.reduceEqDiff, Nat.reduceLeDiff, Nat.reduceAdd, Nat.reduceMul, Nat.reduceLT, Nat.one_ne_zero, eq_self, not_true_eq_false, not_false_eq_true, and_self, h66]
    exact hQ V1 hR1 o1
theorem w_und {τ : Nat → Nat} {F : pG → pR} (hF : actOk E v w F) (hsame : ∀ g1, gσ g1 = gσ g → F g1 = papp r (some τ) g1) (hG : gG g) (hR : cRep S V x (gset (grec g) τ)) (hO : oRep E S V x) (hQ : ∀ V' g' l14, cRep S V' x g' → tOut V V' x → gG g' → gσ g' = τ → gis g' = gis g → gsv g' = gsv g → xX E mL_law 247 [l0, some (.ref x), l2, l3, l4, some (.int v), some (.int w), some (.long (dig (gσ g))), none, l9, some (.int r), some (.long (dig τ)), none, some (.int (nI 0)), l14] [] S V' Q) : xX E mL_law 177 [l0, some (.ref x), l2, l3, l4, some (.int v), some (.int w), some (.long (dig (gσ g))), none, l9, some (.int r), some (.long (dig τ)), none, some (.int (nI 0)), l14] [] S V Q := by
  have hx5 := hR.1.1
  have hFg : F g = papp r (some τ) g := hsame g rfl
  have hG1 : gG (gset (grec g) τ) := by have := op_keep hF.1 hG; rw [hFg] at this; exact this
  by_cases hc : (v >>> (nI 8 &&& 31)) &&& nI 1 = nI 1
  · have hu6 := hG.2.1
    have hu : gu (gset (grec g) τ) = if gu g = 6 then 6 else gu g + 1 := grec_u hu6
    have hup : 0 < gu (gset (grec g) τ) := by rw [hu]; split <;> omega
    have hu7 : gu (gset (grec g) τ) < 2147483648 := by rw [hu]; split <;> omega
    have htop : gσ (gundo (gset (grec g) τ)) = gσ g := grec_top hu6
    have hG2 : gG (gundo (gset (grec g) τ)) := gG_undo hG1 hup
    have hpu : pundo (gset (grec g) τ) = (nI (gu (gset (grec g) τ) - 1), gundo (gset (grec g) τ)) := by unfold pundo; rw [if_neg (by omega)]
    have hF2 := hsame (gundo (gset (grec g) τ)) htop
    have hG3 := op_keep hF.1 hG2
    simp (disch := (first | assumption | exact xnl_i _ | exact xnl_r _ | exact xnl_n | exact Bool.toNat_lt _ | exact hb _ | exact hb2 _ | omega | exact Nat.le_of_ble_eq_true rfl | rfl | decide)) only [pL_law_177, pL_law_179, pL_law_182, pL_law_184, pL_law_186, pL_law_187, pL_law_188, pL_law_189, pL_law_190, pL_law_193, pL_law_194, nI_add, pk_mul, xn_and, xn_or, xn_xor, xn_shl, xn_shr, xn_lt, xn_le, xn_eq, xrf_some, xup_eq, xup_ne, xrow_eq, xrow_ne, Option.toList_some, Option.toList_none, List.singleton_append, List.nil_append, List.cons_append, xnl_n, xnl_i, xnl_r, Nat.zero_add, Nat.add_zero, ↓reduceIte, Nat.reduceEqDiff, Nat.reduceLeDiff, Nat.reduceAdd, Nat.reduceMul, Nat.reduceLT, Nat.one_ne_zero, eq_self, not_true_eq_false, not_false_eq_true, and_self, hc]
    rw [pL_law_196 hx5 (Nat.le_of_ble_eq_true rfl)]
    refine d_count (by decide) hR hG1 (fun V1 hR1 o1 => ?_)
    rw [pcountv_9]
    generalize hu1 : gu (gset (grec g) τ) = u1 at hup hu7 hpu
    simp (disch := (first | assumption | exact xnl_i _ | exact xnl_r _ | exact xnl_n | exact Bool.toNat_lt _ | exact hb _ | exact hb2 _ | omega | exact Nat.le_of_ble_eq_true rfl | rfl | decide)) only [pL_law_199, pL_law_200, pL_law_201, pL_law_203, nI_add, pk_mul, xn_sub, xn_and, xn_or, xn_xor, xn_shl, xn_shr, xn_lt, xn_le, xn_eq, xrf_some, xup_eq, xup_ne, xrow_eq, xrow_ne, Option.toList_some, Option.toList_none, List.singleton_append, List.nil_append, List.cons_append, xnl_n, xnl_i, xnl_r, Nat.zero_add, Nat.add_zero, ↓reduceIte, Nat.reduceEqDiff, Nat.reduceLeDiff, Nat.reduceAdd, Nat.reduceMul, Nat.reduceLT, Nat.one_ne_zero, eq_self, not_true_eq_false, not_false_eq_true, and_self]
    rw [pL_law_204 hx5 (Nat.le_of_ble_eq_true rfl)]
    refine c_undo hR1 hG1 (fun V2 hR2 o2 => ?_)
    rw [hpu] at hR2 ⊢
    simp (disch := (first | assumption | exact xnl_i _ | exact xnl_r _ | exact xnl_n | exact Bool.toNat_lt _ | exact hb _ | exact hb2 _ | omega | exact Nat.le_of_ble_eq_true rfl | rfl | decide)) only [pL_law_207, pL_law_209, pL_law_212, nI_add, pk_mul, xn_sub, xn_and, xn_or, xn_xor, xn_shl, xn_shr, xn_lt, xn_le, xn_eq, xrf_some, xup_eq, xup_ne, xrow_eq, xrow_ne, Option.toList_some, Option.toList_none, List.singleton_append, List.nil_append, List.cons_append, xnl_n, xnl_i, xnl_r, Nat.zero_add, Nat.add_zero, ↓reduceIte, Nat.reduceEqDiff, Nat.reduceLeDiff, Nat.reduceAdd, Nat.reduceMul, Nat.reduceLT, Nat.one_ne_zero, eq_self, not_true_eq_false, not_false_eq_true, and_self]
    rw [pL_law_213 (Nat.le_of_ble_eq_true rfl)]
    refine c_digest hR2 hG2 (fun V3 hR3 o3 => ?_)
    rw [htop]
    simp (disch := (first | assumption | exact xnl_i _ | exact xnl_r _ | exact xnl_n | exact Bool.toNat_lt _ | exact hb _ | exact hb2 _ | omega | exact Nat.le_of_ble_eq_true rfl | rfl | decide)) only [pL_law_216, pL_law_218, pL_law_219, pL_law_222, pL_law_223, pL_law_225, nI_add, pk_mul, xn_sub, xn_and, xn_or, xn_xor, xn_shl, xn_shr, xn_lt, xn_le, xn_eq, xrf_some, xup_eq, xup_ne, xrow_eq, xrow_ne, Option.toList_some, Option.toList_none, List.singleton_append, List.nil_append, List.cons_append, xnl_n, xnl_i, xnl_r, Nat.zero_add, Nat.add_zero, ↓reduceIte, Nat.reduceEqDiff, Nat.reduceLeDiff, Nat.reduceAdd, Nat.reduceMul, Nat.reduceLT, Nat.one_ne_zero, eq_self, not_true_eq_false, not_false_eq_true, and_self, lcmp_self]
    rw [pL_law_227 (Nat.le_of_ble_eq_true rfl)]
    refine hF.2 S V3 _ x _ hR3 hG2 (oRep_t hO (tOut_t o1 (tOut_t o2 o3))) (fun V4 hR4 o4 => ?_)
    rw [hF2, papp_s] at hR4 hG3 ⊢
    simp (disch := (first | assumption | exact xnl_i _ | exact xnl_r _ | exact xnl_n | exact Bool.toNat_lt _ | exact hb _ | exact hb2 _ | omega | exact Nat.le_of_ble_eq_true rfl | rfl | decide)) only [pL_law_230, pL_law_232, pL_law_235, nI_add, pk_mul, xn_sub, xn_and, xn_or, xn_xor, xn_shl, xn_shr, xn_lt, xn_le, xn_eq, xrf_some, xup_eq, xup_ne, xrow_eq, xrow_ne, Option.toList_some, Option.toList_none, List.singleton_append, List.nil_append, List.cons_append, xnl_n, xnl_i, xnl_r, Nat.zero_add, Nat.add_zero, ↓reduceIte, Nat.reduceEqDiff, Nat.reduceLeDiff, Nat.reduceAdd, Nat.reduceMul, Nat.reduceLT, Nat.one_ne_zero, eq_self, not_true_eq_false, not_false_eq_true, and_self]
    rw [pL_law_236 (Nat.le_of_ble_eq_true rfl)]
    refine c_digest hR4 hG3 (fun V5 hR5 o5 => ?_)
    have e : gσ (gset (grec (gundo (gset (grec g) τ))) τ) = τ := rfl
    rw [e]
    simp (disch := (first | assumption | exact xnl_i _ | exact xnl_r _ | exact xnl_n | exact Bool.toNat_lt _ | exact hb _ | exact hb2 _ | omega | exact Nat.le_of_ble_eq_true rfl | rfl | decide)) only [pL_law_239, pL_law_241, pL_law_242, nI_add, pk_mul, xn_sub, xn_and, xn_or, xn_xor, xn_shl, xn_shr, xn_lt, xn_le, xn_eq, xrf_some, xup_eq, xup_ne, xrow_eq, xrow_ne, Option.toList_some, Option.toList_none, List.singleton_append, List.nil_append, List.cons_append, xnl_n, xnl_i, xnl_r, Nat.zero_add, Nat.add_zero, ↓reduceIte, Nat.reduceEqDiff, Nat.reduceLeDiff, Nat.reduceAdd, Nat.reduceMul, Nat.reduceLT, Nat.one_ne_zero, eq_self, not_true_eq_false, not_false_eq_true, and_self, lcmp_self]
    exact hQ V5 _ _ hR5 (tOut_t o1 (tOut_t o2 (tOut_t o3 (tOut_t o4 o5)))) hG3 rfl rfl rfl
  · simp (disch := (first | assumption | exact xnl_i _ | exact xnl_r _ | exact xnl_n | exact Bool.toNat_lt _ | exact hb _ | exact hb2 _ | omega | exact Nat.le_of_ble_eq_true rfl | rfl | decide)) only [pL_law_177, pL_law_179, pL_law_182, pL_law_184, pL_law_186, pL_law_187, pL_law_188, pL_law_189, pL_law_190, nI_add, pk_mul, xn_and, xn_or, xn_xor, xn_shl, xn_shr, xn_lt, xn_le, xn_eq, xrf_some, xup_eq, xup_ne, xrow_eq, xrow_ne, Option.toList_some, Option.toList_none, List.singleton_append, List.nil_append, List.cons_append, xnl_n, xnl_i, xnl_r, Nat.zero_add, Nat.add_zero, ↓reduceIte, Nat.reduceEqDiff, Nat.reduceLeDiff, Nat.reduceAdd, Nat.reduceMul, Nat.reduceLT, Nat.one_ne_zero, eq_self, not_true_eq_false, not_false_eq_true, and_self, hc]
    exact hQ V _ _ hR tOut_r hG1 rfl rfl rfl
theorem left_le (σ : Nat → Nat) : ¬ nI 1000 < rv (puntil σ 255) := by
  unfold puntil
  cases h : pfst (fun k => decide (pin (pslots k σ) 0 &&& 255 = 255)) 1000 0 with
  | none => exact by decide
  | some c =>
    have := pfst_le h
    intro z
    have := (xn_lt (a := 1000) (b := c) (by decide) (by omega)).mp z
    omega
theorem w_tail {sv : Int64} (hR : cRep S V x g) (hG : gG g) (ha : acc (gσ g)) (hQ : ∀ V' g' sv', cRep S V' x g' → tOut V V' x → ((g' = g ∧ sv' = sv) ∨ (g' = gsave g 1 ∧ sv' = dig (gσ g))) → xX E mL_law 45 [some l0v, some (.ref x), some (.long sv'), none, some (.int (nI (i + 1))), some (.int v), l6, l7, l8, l9, l10, some (.long (dig (gσ g))), none, l13, l14] [] S V' Q) : xX E mL_law 247 [some l0v, some (.ref x), some (.long sv), none, some (.int (nI i)), some (.int v), l6, l7, l8, l9, l10, some (.long (dig (gσ g))), none, l13, l14] [] S V Q := by
  have hx5 := hR.1.1
  have hle := left_le (gσ g)
  simp (disch := (first | assumption | exact xnl_i _ | exact xnl_r _ | exact xnl_n | exact Bool.toNat_lt _ | exact hb _ | exact hb2 _ | omega | exact Nat.le_of_ble_eq_true rfl | rfl | decide)) only [pL_law_247, nI_add, pk_mul, xn_sub, xn_and, xn_or, xn_xor, xn_shl, xn_shr, xn_lt, xn_le, xn_eq, xrf_some, xup_eq, xup_ne, xrow_eq, xrow_ne, Option.toList_some, Option.toList_none, List.singleton_append, List.nil_append, List.cons_append, xnl_n, xnl_i, xnl_r, Nat.zero_add, Nat.add_zero, ↓reduceIte, Nat.reduceEqDiff, Nat.reduceLeDiff, Nat.reduceAdd, Nat.reduceMul, Nat.reduceLT, Nat.one_ne_zero, eq_self, not_true_eq_false, not_false_eq_true, and_self]
  rw [pL_law_248 (Nat.le_of_ble_eq_true rfl)]
  refine c_adds hR hG ha (fun V1 hR1 o1 => ?_)
  simp (disch := (first | assumption | exact xnl_i _ | exact xnl_r _ | exact xnl_n | exact Bool.toNat_lt _ | exact hb _ | exact hb2 _ | omega | exact Nat.le_of_ble_eq_true rfl | rfl | decide)) only [pL_law_251, pL_law_254, nI_add, pk_mul, xn_sub, xn_and, xn_or, xn_xor, xn_shl, xn_shr, xn_lt, xn_le, xn_eq, xrf_some, xup_eq, xup_ne, xrow_eq, xrow_ne, Option.toList_some, Option.toList_none, List.singleton_append, List.nil_append, List.cons_append, xnl_n, xnl_i, xnl_r, Nat.zero_add, Nat.add_zero, ↓reduceIte, Nat.reduceEqDiff, Nat.reduceLeDiff, Nat.reduceAdd, Nat.reduceMul, Nat.reduceLT, Nat.one_ne_zero, eq_self, not_true_eq_false, not_false_eq_true, and_self]
  rw [pL_law_255 hx5 (Nat.le_of_ble_eq_true rfl)]
  refine c_left hR1 hG (fun V2 hR2 o2 => ?_)
  have hR2 : cRep S V2 x g := hR2
  have e : (pleft g).1 = rv (puntil (gσ g) 255) := rfl
  rw [e]
  simp (disch := (first | assumption | exact xnl_i _ | exact xnl_r _ | exact xnl_n | exact Bool.toNat_lt _ | exact hb _ | exact hb2 _ | omega | exact Nat.le_of_ble_eq_true rfl | rfl | decide)) only [pL_law_258, pL_law_261, pL_law_264, nI_add, pk_mul, xn_sub, xn_and, xn_or, xn_xor, xn_shl, xn_shr, xn_lt, xn_le, xn_eq, xrf_some, xup_eq, xup_ne, xrow_eq, xrow_ne, Option.toList_some, Option.toList_none, List.singleton_append, List.nil_append, List.cons_append, xnl_n, xnl_i, xnl_r, Nat.zero_add, Nat.add_zero, ↓reduceIte, Nat.reduceEqDiff, Nat.reduceLeDiff, Nat.reduceAdd, Nat.reduceMul, Nat.reduceLT, Nat.one_ne_zero, eq_self, not_true_eq_false, not_false_eq_true, and_self, hle]
  rw [pL_law_265 (Nat.le_of_ble_eq_true rfl)]
  refine c_digest hR2 hG (fun V3 hR3 o3 => ?_)
  have o03 := tOut_t o1 (tOut_t o2 o3)
  by_cases hc : (v >>> (nI 9 &&& 31)) &&& nI 7 = nI 0
  · simp (disch := (first | assumption | exact xnl_i _ | exact xnl_r _ | exact xnl_n | exact Bool.toNat_lt _ | exact hb _ | exact hb2 _ | omega | exact Nat.le_of_ble_eq_true rfl | rfl | decide)) only [pL_law_268, pL_law_270, pL_law_271, pL_law_274, pL_law_275, pL_law_276, pL_law_278, pL_law_280, pL_law_281, pL_law_283, pL_law_284, pL_law_287, pL_law_288, nI_add, pk_mul, xn_sub, xn_and, xn_or, xn_xor, xn_shl, xn_shr, xn_lt, xn_le, xn_eq, xrf_some, xup_eq, xup_ne, xrow_eq, xrow_ne, Option.toList_some, Option.toList_none, List.singleton_append, List.nil_append, List.cons_append, xnl_n, xnl_i, xnl_r, Nat.zero_add, Nat.add_zero, ↓reduceIte, Nat.reduceEqDiff, Nat.reduceLeDiff, Nat.reduceAdd, Nat.reduceMul, Nat.reduceLT, Nat.one_ne_zero, eq_self, not_true_eq_false, not_false_eq_true, and_self, lcmp_self, hc]
    rw [pL_law_289 hx5 (Nat.le_of_ble_eq_true rfl)]
    refine c_save hR3 hG (fun V4 hR4 o4 => ?_)
    have es : psave g (nI 1) = (nI (gσ g 496), gsave g 1) := by
      unfold psave; rw [if_pos (rng_n (show 0 ≤ 1 by decide) (Nat.le_refl 1) (by decide)), ix_n (by decide)]
    rw [es] at hR4 ⊢
    simp (disch := (first | assumption | exact xnl_i _ | exact xnl_r _ | exact xnl_n | exact Bool.toNat_lt _ | exact hb _ | exact hb2 _ | omega | exact Nat.le_of_ble_eq_true rfl | rfl | decide)) only [pL_law_292, pL_law_293, pL_law_295, pL_law_296, pL_law_299, nI_add, pk_mul, xn_sub, xn_and, xn_or, xn_xor, xn_shl, xn_shr, xn_lt, xn_le, xn_eq, xrf_some, xup_eq, xup_ne, xrow_eq, xrow_ne, Option.toList_some, Option.toList_none, List.singleton_append, List.nil_append, List.cons_append, xnl_n, xnl_i, xnl_r, Nat.zero_add, Nat.add_zero, ↓reduceIte, Nat.reduceEqDiff, Nat.reduceLeDiff, Nat.reduceAdd, Nat.reduceMul, Nat.reduceLT, Nat.one_ne_zero, eq_self, not_true_eq_false, not_false_eq_true, and_self]
    exact hQ V4 _ _ hR4 (tOut_t o03 o4) (Or.inr ⟨rfl, rfl⟩)
  · simp (disch := (first | assumption | exact xnl_i _ | exact xnl_r _ | exact xnl_n | exact Bool.toNat_lt _ | exact hb _ | exact hb2 _ | omega | exact Nat.le_of_ble_eq_true rfl | rfl | decide)) only [pL_law_268, pL_law_270, pL_law_271, pL_law_274, pL_law_275, pL_law_276, pL_law_278, pL_law_280, pL_law_281, pL_law_283, pL_law_284, pL_law_296, pL_law_299, nI_add, pk_mul, xn_sub, xn_and, xn_or, xn_xor, xn_shl, xn_shr, xn_lt, xn_le, xn_eq, xrf_some, xup_eq, xup_ne, xrow_eq, xrow_ne, Option.toList_some, Option.toList_none, List.singleton_append, List.nil_append, List.cons_append, xnl_n, xnl_i, xnl_r, Nat.zero_add, Nat.add_zero, ↓reduceIte, Nat.reduceEqDiff, Nat.reduceLeDiff, Nat.reduceAdd, Nat.reduceMul, Nat.reduceLT, Nat.one_ne_zero, eq_self, not_true_eq_false, not_false_eq_true, and_self, lcmp_self, hc]
    exact hQ V3 g sv hR3 o03 (Or.inl ⟨rfl, rfl⟩)
theorem w_end {sv : Int64} (hR : cRep S V x g) (hG : gG g) (hs : gis g 1 = true) (hd : dig (gsv g 1) = sv) (hQ : ∀ V', Q (some (.int (nI 1))) S V') : xX E mL_law 45 [l0, some (.ref x), some (.long sv), l3, some (.int (nI 30)), l5, l6, l7, l8, l9, l10, l11, l12, l13, l14] [] S V Q := by
  have hx5 := hR.1.1
  have er : prestore g (nI 1) = (nI (gsv g 1 496), gset (grec g) (gsv g 1)) := by
    unfold prestore; rw [if_pos (rng_n (show 0 ≤ 1 by decide) (Nat.le_refl 1) (by decide)), ix_n (by decide), if_pos hs]
  have hG1 : gG (gset (grec g) (gsv g 1)) := by
    have := keep_restore (a := nI 1) hG
    rw [er] at this
    exact this
  simp (disch := (first | assumption | exact xnl_i _ | exact xnl_r _ | exact xnl_n | exact Bool.toNat_lt _ | exact hb _ | exact hb2 _ | omega | exact Nat.le_of_ble_eq_true rfl | rfl | decide)) only [pL_law_45, pL_law_47, pL_law_49, pL_law_302, pL_law_303, nI_add, pk_mul, xn_sub, xn_and, xn_or, xn_xor, xn_shl, xn_shr, xn_lt, xn_le, xn_eq, xrf_some, xup_eq, xup_ne, xrow_eq, xrow_ne, Option.toList_some, Option.toList_none, List.singleton_append, List.nil_append, List.cons_append, xnl_n, xnl_i, xnl_r, Nat.zero_add, Nat.add_zero, ↓reduceIte, Nat.reduceEqDiff, Nat.reduceLeDiff, Nat.reduceAdd, Nat.reduceMul, Nat.reduceLT, Nat.one_ne_zero, eq_self, not_true_eq_false, not_false_eq_true, and_self]
  rw [pL_law_304 hx5 (Nat.le_of_ble_eq_true rfl)]
  refine c_restore hR hG (fun V1 hR1 o1 => ?_)
  rw [er] at hR1 ⊢
  simp (disch := (first | assumption | exact xnl_i _ | exact xnl_r _ | exact xnl_n | exact Bool.toNat_lt _ | exact hb _ | exact hb2 _ | omega | exact Nat.le_of_ble_eq_true rfl | rfl | decide)) only [pL_law_307, pL_law_308, nI_add, pk_mul, xn_sub, xn_and, xn_or, xn_xor, xn_shl, xn_shr, xn_lt, xn_le, xn_eq, xrf_some, xup_eq, xup_ne, xrow_eq, xrow_ne, Option.toList_some, Option.toList_none, List.singleton_append, List.nil_append, List.cons_append, xnl_n, xnl_i, xnl_r, Nat.zero_add, Nat.add_zero, ↓reduceIte, Nat.reduceEqDiff, Nat.reduceLeDiff, Nat.reduceAdd, Nat.reduceMul, Nat.reduceLT, Nat.one_ne_zero, eq_self, not_true_eq_false, not_false_eq_true, and_self]
  rw [pL_law_309 hx5 (Nat.le_of_ble_eq_true rfl)]
  refine d_count (by decide) hR1 hG1 (fun V2 hR2 o2 => ?_)
  rw [pcountv_0]
  have e1 : gσ (gset (grec g) (gsv g 1)) = gsv g 1 := rfl
  rw [e1]
  simp (disch := (first | assumption | exact xnl_i _ | exact xnl_r _ | exact xnl_n | exact Bool.toNat_lt _ | exact hb _ | exact hb2 _ | omega | exact Nat.le_of_ble_eq_true rfl | rfl | decide)) only [pL_law_312, pL_law_315, nI_add, pk_mul, xn_sub, xn_and, xn_or, xn_xor, xn_shl, xn_shr, xn_lt, xn_le, xn_eq, xrf_some, xup_eq, xup_ne, xrow_eq, xrow_ne, Option.toList_some, Option.toList_none, List.singleton_append, List.nil_append, List.cons_append, xnl_n, xnl_i, xnl_r, Nat.zero_add, Nat.add_zero, ↓reduceIte, Nat.reduceEqDiff, Nat.reduceLeDiff, Nat.reduceAdd, Nat.reduceMul, Nat.reduceLT, Nat.one_ne_zero, eq_self, not_true_eq_false, not_false_eq_true, and_self]
  rw [pL_law_316 (Nat.le_of_ble_eq_true rfl)]
  refine c_digest hR2 hG1 (fun V3 hR3 o3 => ?_)
  rw [e1, hd]
  simp (disch := (first | assumption | exact xnl_i _ | exact xnl_r _ | exact xnl_n | exact Bool.toNat_lt _ | exact hb _ | exact hb2 _ | omega | exact Nat.le_of_ble_eq_true rfl | rfl | decide)) only [pL_law_319, pL_law_320, pL_law_321, pL_law_324, pL_law_325, pL_law_328, pL_law_329, nI_add, pk_mul, xn_sub, xn_and, xn_or, xn_xor, xn_shl, xn_shr, xn_lt, xn_le, xn_eq, xrf_some, xup_eq, xup_ne, xrow_eq, xrow_ne, Option.toList_some, Option.toList_none, List.singleton_append, List.nil_append, List.cons_append, xnl_n, xnl_i, xnl_r, Nat.zero_add, Nat.add_zero, ↓reduceIte, Nat.reduceEqDiff, Nat.reduceLeDiff, Nat.reduceAdd, Nat.reduceMul, Nat.reduceLT, Nat.one_ne_zero, eq_self, not_true_eq_false, not_false_eq_true, and_self, lcmp_self]
  exact hQ V3
theorem law_loop (hkb : xkd S b = 14) (hL : xln S b = L) (hL31 : L < 2147483648) (hQ : ∀ V, Q (some (.int (nI 1))) S V) : ∀ n i g V sv l5 l6 l7 l8 l9 l10 l11 l12 l13 l14, i + n = 30 → cRep S V x g → oRep E S V x → gG g → acc (gσ g) → gis g 1 = true → dig (gsv g 1) = sv → xX E mL_law 45 [some (.ref b), some (.ref x), some (.long sv), none, some (.int (nI i)), l5, l6, l7, l8, l9, l10, l11, l12, l13, l14] [] S V Q := by
  intro n
  induction n with
  | zero =>
    intro i g V sv l5 l6 l7 l8 l9 l10 l11 l12 l13 l14 hn hR hO hG ha hs hd
    have hi : i = 30 := by omega
    subst hi
    exact w_end hR hG hs hd hQ
  | succ n ih =>
    intro i g V sv l5 l6 l7 l8 l9 l10 l11 l12 l13 l14 hn hR hO hG ha hs hd
    refine w_in hkb hL hL31 hR hG hO (by omega) (fun v w F hF V1 hR1 o1 => ?_)
    -- from the tail on
    have tail : ∀ V' g' m7 m9 m10 m13 m14, cRep S V' x g' → oRep E S V' x → gG g' → acc (gσ g') → gis g' = gis g → gsv g' = gsv g → xX E mL_law 247 [some (.ref b), some (.ref x), some (.long sv), none, some (.int (nI i)), some (.int v), some (.int w), m7, none, m9, m10, some (.long (dig (gσ g'))), none, m13, m14] [] S V' Q := by
      intro V' g' m7 m9 m10 m13 m14 hR' hO' hG' ha' hs' hv'
      refine w_tail hR' hG' ha' (fun V2 g2 sv2 hR2 o2 hg2 => ?_)
      rcases hg2 with ⟨rfl, rfl⟩ | ⟨rfl, rfl⟩
      · exact ih (i + 1) _ V2 _ _ _ _ _ _ _ _ _ _ _ (by omega) hR2 (oRep_t hO' o2) hG' ha' (by rw [hs']; exact hs) (by rw [hv']; exact hd)
      · exact ih (i + 1) _ V2 _ _ _ _ _ _ _ _ _ _ _ (by omega) hR2 (oRep_t hO' o2) (gG_save hG') ha' (show (if (1 : Nat) = 1 then true else gis g' 1) = true from if_pos rfl) (congrArg dig (show (if (1 : Nat) = 1 then gσ g' else gsv g' 1) = gσ g' from if_pos rfl))
    obtain ⟨r, t, hsame, hre, hacc⟩ := op_facts hF.1 hG
    have hFg := hsame g rfl
    have hGF := op_keep hF.1 hG
    rw [hFg] at hR1 hGF ⊢
    cases t with
    | none =>
      rw [papp_n] at hR1 hGF ⊢
      exact w_err (hre.mp rfl) hR1 hG (fun V2 hR2 o2 => tail V2 g _ _ _ _ _ hR2 (oRep_t hO (tOut_t o1 o2)) hG ha rfl rfl)
    | some τ =>
      rw [papp_s] at hR1 hGF ⊢
      have hr : ¬ isErr r := fun z => by have := hre.mpr z; cases this
      have hR1 : cRep S V1 x (gset (grec g) τ) := hR1
      have hGF : gG (gset (grec g) τ) := hGF
      show xX E mL_law 104 [some (.ref b), some (.ref x), some (.long sv), none, some (.int (nI i)), some (.int v), some (.int w), some (.long (dig (gσ g))), none, some (.int (nI (gu g))), some (.int r), some (.long (dig τ)), none, l13, l14] [] S V1 Q
      refine w_ok (g := gset (grec g) τ) hr hG.2.1 (grec_u hG.2.1) hR1 hGF (fun V2 hR2 o2 => ?_)
      refine w_und hF hsame hG hR2 (oRep_t hO (tOut_t o1 o2)) (fun V3 g3 m14 hR3 o3 hG3 e3 e4 e5 => ?_)
      have := tail V3 g3 (some (.long (dig (gσ g)))) (some (.int (nI (gu g)))) (some (.int r)) (some (.int (nI 0))) m14 hR3 (oRep_t hO (tOut_t o1 (tOut_t o2 o3))) hG3 (by rw [e3]; exact hacc τ rfl ha) e4 e5
      rw [e3] at this
      exact this
end LAW
