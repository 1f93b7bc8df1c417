/-! ===== the class: fault, read ===== -/
section KPU
variable {E : Nat × Nat × Nat} {S : xSh} {V V' W : xV} {Q : Option Value → xSh → xV → Prop} {x a : Nat} {g : pG} {σ : Nat → Nat}
theorem qF_rep (h : cRep S V x g) (hF : qF V W x) : cRep S W x g :=
  cRep_pad h (fun a ha => hF.1 a (by omega) (by omega) (by omega)) ⟨hF.2.trans h.2.2.2.2.1, fun j hj => by rw [hF.1 _ (by omega) (by omega) (by omega)]; exact h.2.2.2.2.2 j hj⟩
theorem qF_out (hF : qF V W x) : tOut V W x := fun a ha => hF.1 a (by omega) (by omega) (by omega)
theorem c_fault (hR : cRep S V x g) (hG : gG g) (hO : oRep E S V x) (hE : eRep E S V x) (hQ : ∀ V', cRep S V' x (pfault g).2 → tOut V V' x → Q (some (.int (pfault g).1)) S V') : xC E mX4_fault [.ref x] S V Q := by
  have hT := hR.1
  obtain ⟨tk0, tr0, tr1, tr2, tr3, tr4, tr5, tnow, ttry, hk0, hr0, hk1, hn1, hms, sk0, sn0, sms, ik0, in0, pk0, pr0, pr2, pr3, qk1, qn1, qk2, qn2, qk3, qn3⟩ := hT
  show xX E mX4_fault 0 [some (.ref x)] [] S V Q
  simp (disch := (first | assumption | exact xnl_i _ | exact xnl_r _ | exact xnl_n | exact Bool.toNat_lt _ | exact hb _ | exact hb2 _ | omega | exact Nat.le_of_ble_eq_true rfl | rfl | decide)) only [pX4_fault_0, pX4_fault_1, nI_add, pk_mul, xn_sub, xn_and, xn_or, xn_xor, xn_shl, xn_shr, xn_lt, xn_le, xn_eq, xrf_some, xup_eq, xup_ne, xrow_eq, xrow_ne, Option.toList_some, Option.toList_none, List.singleton_append, List.nil_append, List.cons_append, xnl_n, xnl_i, xnl_r, Nat.zero_add, Nat.add_zero, ↓reduceIte, Nat.reduceEqDiff, Nat.reduceLeDiff, Nat.reduceAdd, Nat.reduceMul, Nat.reduceLT, Nat.one_ne_zero, eq_self, not_true_eq_false, not_false_eq_true, and_self, tk0, tr0, tr1, tr2, tr3, tr4, tr5]
  rw [pX4_fault_4 pk0 (by decide)]
  refine k_findFault hR.1 hR.2.2.2.2 hO hE hG (fun W hF _ => ?_)
  simp (disch := (first | assumption | exact xnl_i _ | exact xnl_r _ | exact xnl_n | exact Bool.toNat_lt _ | exact hb _ | exact hb2 _ | omega | exact Nat.le_of_ble_eq_true rfl | rfl | decide)) only [pX4_fault_7, nI_add, pk_mul, xn_sub, xn_and, xn_or, xn_xor, xn_shl, xn_shr, xn_lt, xn_le, xn_eq, xrf_some, xup_eq, xup_ne, xrow_eq, xrow_ne, Option.toList_some, Option.toList_none, List.singleton_append, List.nil_append, List.cons_append, xnl_n, xnl_i, xnl_r, Nat.zero_add, Nat.add_zero, ↓reduceIte, Nat.reduceEqDiff, Nat.reduceLeDiff, Nat.reduceAdd, Nat.reduceMul, Nat.reduceLT, Nat.one_ne_zero, eq_self, not_true_eq_false, not_false_eq_true, and_self]
  exact hQ W (qF_rep hR hF) (qF_out hF)
theorem c_read (hR : cRep S V x g) (hG : gG g) (hO : oRep E S V x) (hE : eRep E S V x) (hQ : ∀ V', cRep S V' x (pread g).2 → tOut V V' x → Q (some (.int (pread g).1)) S V') : xC E mX4_read [.ref x] S V Q := by
  have hT := hR.1; obtain ⟨tk0, tr0, tr1, tr2, tr3, tr4, tr5, tnow, ttry, hk0, hr0, hk1, hn1, hms, sk0, sn0, sms, ik0, in0, pk0, pr0, pr2, pr3, qk1, qn1, qk2, qn2, qk3, qn3⟩ := hT; have hKn := tnow; obtain ⟨mk0, mr0, mr1, mr2, mk1, mn1, mk2, mn2, mk3, mn3, mcs⟩ := hKn; have hw := gs_wf hG.1; have hb := wf_b hw; have hN := hR.2.1; have tnow0 := tnow.1
  show xX E mX4_read 0 [some (.ref x)] [] S V Q
  simp (disch := (first | assumption | exact xnl_i _ | exact xnl_r _ | exact xnl_n | exact Bool.toNat_lt _ | exact hb _ | exact hb2 _ | omega | exact Nat.le_of_ble_eq_true rfl | rfl | decide)) only [pX4_read_0, pX4_read_1, nI_add, pk_mul, xn_sub, xn_and, xn_or, xn_xor, xn_shl, xn_shr, xn_lt, xn_le, xn_eq, xrf_some, xup_eq, xup_ne, xrow_eq, xrow_ne, Option.toList_some, Option.toList_none, List.singleton_append, List.nil_append, List.cons_append, xnl_n, xnl_i, xnl_r, Nat.zero_add, Nat.add_zero, ↓reduceIte, Nat.reduceEqDiff, Nat.reduceLeDiff, Nat.reduceAdd, Nat.reduceMul, Nat.reduceLT, Nat.one_ne_zero, eq_self, not_true_eq_false, not_false_eq_true, and_self, tk0, tr0, tr1, tr2, tr3, tr4, tr5]
  rw [pX4_read_4 pk0 (by decide)]
  refine k_findFault hR.1 hR.2.2.2.2 hO hE hG (fun W hF hread => ?_)
  have hRW := qF_rep hR hF
  unfold pread at hQ
  cases hp : (pparse g).1 with
  | some q =>
    rw [hp] at hQ
    have hq := pparse_le hG hp
    have hne : ¬ nI q = -6 := xn_ne6' (by omega)
    simp (disch := (first | assumption | exact xnl_i _ | exact xnl_r _ | exact xnl_n | exact Bool.toNat_lt _ | exact hb _ | exact hb2 _ | omega | exact Nat.le_of_ble_eq_true rfl | rfl | decide)) only [pX4_read_7, pX4_read_9, pX4_read_12, pX4_read_14, nI_add, pk_mul, xn_sub, xn_and, xn_or, xn_xor, xn_shl, xn_shr, xn_lt, xn_le, xn_eq, xrf_some, xup_eq, xup_ne, xrow_eq, xrow_ne, Option.toList_some, Option.toList_none, List.singleton_append, List.nil_append, List.cons_append, xnl_n, xnl_i, xnl_r, Nat.zero_add, Nat.add_zero, ↓reduceIte, Nat.reduceEqDiff, Nat.reduceLeDiff, Nat.reduceAdd, Nat.reduceMul, Nat.reduceLT, Nat.one_ne_zero, eq_self, not_true_eq_false, not_false_eq_true, and_self, rv, hne]
    exact hQ W hRW (qF_out hF)
  | none =>
    rw [hp] at hQ
    dsimp only at hQ
    obtain ⟨h4, h5, hm16, hcodes⟩ := hread rfl hp
    generalize (pparse g).2.1 = m at hQ h5 hm16 hcodes
    generalize (pparse g).2.2 = f at hQ hcodes
    have hc8 : pch g 0 - 48 < 8 := by
      unfold pparse at hp
      split at hp
      · omega
      · cases hp
    generalize pch g 0 - 48 = c at hQ h4 hc8
    obtain ⟨W2, hRW2, hoW2, hrec⟩ := k_record (E := E) hRW hG
    have e357 : W2 (x + 357) = W (x + 357) := hoW2 _ (by omega)
    have hNW : kM W2 (x + 1) (gσ g) := hRW2.2.1
    obtain ⟨mrc, hcs⟩ := mcs c hc8
    have dk0 := hcs.1
    have h4W : W2 (x + 357) 4 = nI c := by rw [e357]; exact h4
    obtain ⟨W3, l1, l2, l3⟩ := k_load (E := E) (p := x + 357) (f := f) hcs (hNW.1.1 c hc8) (hw.2.1 c hc8).2.2.2.2.1 pk0 pr2 pr3 qk2 qn2 qk3 qn3 (by omega) (by rw [e357]; exact h5) hm16 (fun i hi => by rw [hoW2 (x + 357 + 2) (by omega), hoW2 (x + 357 + 3) (by omega)]; exact hcodes i hi)
    have e357' : W3 (x + 357) = W (x + 357) := by rw [l2 _ (by omega), e357]
    have h4W3 : W3 (x + 357) 4 = nI c := by rw [e357']; exact h4
    have hst : xX E mX4_read 7 [some (.ref x)] [.int (-6)] S W Q ↔ Q (some (.int (nI c))) S (xup W3 (x + 357) 1 (nI 0)) := by
      simp (disch := (first | assumption | exact xnl_i _ | exact xnl_r _ | exact xnl_n | exact Bool.toNat_lt _ | exact hb _ | exact hb2 _ | omega | exact Nat.le_of_ble_eq_true rfl | rfl | decide)) only [pX4_read_7, pX4_read_9, pX4_read_12, pX4_read_14, pX4_read_15, pX4_read_16, pX4_read_19, pX4_read_20, pX4_read_23, pX4_read_26, pX4_read_27, pX4_read_30, pX4_read_33, pX4_read_34, pX4_read_37, pX4_read_40, pX4_read_41, pX4_read_42, pX4_read_45, pX4_read_48, pX4_read_49, pX4_read_52, pX4_read_53, pX4_read_56, pX4_read_57, pX4_read_60, pX4_read_63, nI_add, pk_mul, xn_sub, xn_and, xn_or, xn_xor, xn_shl, xn_shr, xn_lt, xn_le, xn_eq, xrf_some, xup_eq, xup_ne, xrow_eq, xrow_ne, Option.toList_some, Option.toList_none, List.singleton_append, List.nil_append, List.cons_append, xnl_n, xnl_i, xnl_r, Nat.zero_add, Nat.add_zero, ↓reduceIte, Nat.reduceEqDiff, Nat.reduceLeDiff, Nat.reduceAdd, Nat.reduceMul, Nat.reduceLT, Nat.one_ne_zero, eq_self, not_true_eq_false, not_false_eq_true, and_self, tk0, tr0, tr1, tr2, tr3, tr4, tr5, hrec, mk0, mr0, mr1, mr2, pk0, h4W, mrc, l3, h4W3]
    have hhd : (xX E mX4_read 7 [some (.ref x)] [.int (-6)] S W Q) := by
      rw [hst]
      have hs1 : ∀ i, i < 62 * c ∨ 62 * c + 62 ≤ i → ploadN (gσ g) c f m i = gσ g i := fun i hi => by
        rw [ploadN_o m hm16 (by omega) (by omega)]; exact if_neg (by omega)
      have hs2 : ∀ j, 9 < j → j < 14 → ploadN (gσ g) c f m (62 * c + j) = gσ g (62 * c + j) := fun j h1 h2 => by
        rw [ploadN_o m hm16 (by omega) (by omega)]; exact if_neg (by omega)
      have hk := kM_c hNW hw hc8 l2 hs1 l1 (hs2 13 (by decide) (by decide)) (hs2 12 (by decide) (by decide))
      obtain ⟨t1, t2, t3, t4, t5⟩ := cRep_now hRW2 (kOut_c hc8 l2) hk
      have ho : ∀ a, ¬ a = x + 357 → xup W3 (x + 357) 1 (nI 0) a = W3 a := fun a ha => xup_rn ha
      exact hQ _ ⟨t1, kM_e t2 (fun a _ _ => ho a (by omega)), hRep_o t3 (fun a _ _ => ho a (by omega)), sRep_o t4 (fun a _ _ _ => ho a (by omega)), xup_eq, fun j hj => absurd hj (Nat.not_lt_zero j)⟩ (tOut_t (qF_out hF) (tOut_t (tOut_rec hoW2) (tOut_t (tOut_k (kOut_c hc8 l2) (by omega) (by omega)) (tOut_up (by omega)))))
    simpa only [rv, Option.toList_some, List.singleton_append] using hhd
theorem i2c_n : ∀ y : Nat, y < 256 → ((nI y).toUInt32 % 65536).toInt32 = nI y := by decide +kernel
theorem append_51m {l0 l1 l2 l3 : Option Value} {st : List Value} (h : xnl l3 = true) : xX E mX3_append 51 [l0, l1, l2, l3, some (.int (nI 0))] st S V Q ↔ xX E mX3_append 54 [l0, l1, l2, l3, some (.int (-1))] st S V Q := xi_iinc (j := 3) (show decode cX3_append 51 = .ok (.iinc 4 (-1), 3) by decide +kernel) rfl h rfl (by decide) (Nat.le_of_ble_eq_true rfl) rfl
theorem k_charsIn {n : Nat} (hn : n < 2 ^ 64) : xC E mX3_charactersIn [.long (lN n)] S V Q ↔ Q (some (.int (nI (pcn n)))) S V := by
  have loop : ∀ k i rest l5, i + k = 8 → rest < 2 ^ (8 * k) → (xX E mX3_charactersIn 5 [some (.long (lN n)), none, some (.long (lN rest)), none, some (.int (nI i)), l5] [] S V Q ↔ Q (some (.int (nI (pchars k rest i)))) S V) := by
    intro k
    induction k with
    | zero =>
      intro i rest l5 hi hr
      have hi : i = 8 := by omega
      subst hi
      have hr0 : rest = 0 := by omega
      subst hr0
      simp (disch := (first | assumption | exact xnl_i _ | exact xnl_r _ | exact xnl_n | exact Bool.toNat_lt _ | exact hb _ | exact hb2 _ | omega | exact Nat.le_of_ble_eq_true rfl | rfl | decide)) only [pX3_charactersIn_0, pX3_charactersIn_1, pX3_charactersIn_2, pX3_charactersIn_3, pX3_charactersIn_5, pX3_charactersIn_6, pX3_charactersIn_7, pX3_charactersIn_8, pX3_charactersIn_11, pX3_charactersIn_13, pX3_charactersIn_15, pX3_charactersIn_18, pX3_charactersIn_19, pX3_charactersIn_22, pX3_charactersIn_23, pX3_charactersIn_24, pX3_charactersIn_26, pX3_charactersIn_28, pX3_charactersIn_30, pX3_charactersIn_33, pX3_charactersIn_35, pX3_charactersIn_37, pX3_charactersIn_40, pX3_charactersIn_41, pX3_charactersIn_42, pX3_charactersIn_43, pX3_charactersIn_45, pX3_charactersIn_46, pX3_charactersIn_47, pX3_charactersIn_50, pX3_charactersIn_53, pX3_charactersIn_55, nI_add, pk_mul, xn_sub, xn_and, xn_or, xn_xor, xn_shl, xn_shr, xn_lt, xn_le, xn_eq, xrf_some, xup_eq, xup_ne, xrow_eq, xrow_ne, Option.toList_some, Option.toList_none, List.singleton_append, List.nil_append, List.cons_append, xnl_n, xnl_i, xnl_r, Nat.zero_add, Nat.add_zero, ↓reduceIte, Nat.reduceEqDiff, Nat.reduceLeDiff, Nat.reduceAdd, Nat.reduceMul, Nat.reduceLT, Nat.one_ne_zero, eq_self, not_true_eq_false, not_false_eq_true, and_self, xl_0]
      rfl
    | succ k ih =>
      intro i rest l5 hi hr
      have h8 : ¬ 8 ≤ i := by omega
      have hr64 : rest < 2 ^ 64 := Nat.lt_of_lt_of_le hr (Nat.pow_le_pow_right (by decide) (by omega))
      have hr256 : rest % 256 < 256 := Nat.mod_lt _ (by decide)
      have e256 : rest / 256 = rest / 2 ^ 8 := rfl
      unfold pchars
      rw [pX3_charactersIn_5]
      by_cases hr0 : rest = 0
      · rw [if_pos hr0]
        simp (disch := (first | assumption | exact xnl_i _ | exact xnl_r _ | exact xnl_n | exact Bool.toNat_lt _ | exact hb _ | exact hb2 _ | omega | exact Nat.le_of_ble_eq_true rfl | rfl | decide)) only [pX3_charactersIn_0, pX3_charactersIn_1, pX3_charactersIn_2, pX3_charactersIn_3, pX3_charactersIn_6, pX3_charactersIn_7, pX3_charactersIn_8, pX3_charactersIn_11, pX3_charactersIn_13, pX3_charactersIn_15, pX3_charactersIn_18, pX3_charactersIn_19, pX3_charactersIn_22, pX3_charactersIn_23, pX3_charactersIn_24, pX3_charactersIn_26, pX3_charactersIn_28, pX3_charactersIn_30, pX3_charactersIn_33, pX3_charactersIn_35, pX3_charactersIn_37, pX3_charactersIn_40, pX3_charactersIn_41, pX3_charactersIn_42, pX3_charactersIn_43, pX3_charactersIn_45, pX3_charactersIn_46, pX3_charactersIn_47, pX3_charactersIn_50, pX3_charactersIn_53, pX3_charactersIn_55, nI_add, pk_mul, xn_sub, xn_and, xn_or, xn_xor, xn_shl, xn_shr, xn_lt, xn_le, xn_eq, xrf_some, xup_eq, xup_ne, xrow_eq, xrow_ne, Option.toList_some, Option.toList_none, List.singleton_append, List.nil_append, List.cons_append, xnl_n, xnl_i, xnl_r, Nat.zero_add, Nat.add_zero, ↓reduceIte, Nat.reduceEqDiff, Nat.reduceLeDiff, Nat.reduceAdd, Nat.reduceMul, Nat.reduceLT, Nat.one_ne_zero, eq_self, not_true_eq_false, not_false_eq_true, and_self, xl_0, hr0]
      · rw [if_neg hr0]
        by_cases h1 : rest % 256 < 33
        · rw [if_neg (by omega)]
          simp (disch := (first | assumption | exact xnl_i _ | exact xnl_r _ | exact xnl_n | exact Bool.toNat_lt _ | exact hb _ | exact hb2 _ | omega | exact Nat.le_of_ble_eq_true rfl | rfl | decide)) only [pX3_charactersIn_0, pX3_charactersIn_1, pX3_charactersIn_2, pX3_charactersIn_3, pX3_charactersIn_6, pX3_charactersIn_7, pX3_charactersIn_8, pX3_charactersIn_11, pX3_charactersIn_13, pX3_charactersIn_15, pX3_charactersIn_18, pX3_charactersIn_19, pX3_charactersIn_22, pX3_charactersIn_23, pX3_charactersIn_24, pX3_charactersIn_26, pX3_charactersIn_28, pX3_charactersIn_30, pX3_charactersIn_33, pX3_charactersIn_35, pX3_charactersIn_37, pX3_charactersIn_40, pX3_charactersIn_41, pX3_charactersIn_42, pX3_charactersIn_43, pX3_charactersIn_45, pX3_charactersIn_46, pX3_charactersIn_47, pX3_charactersIn_50, pX3_charactersIn_53, pX3_charactersIn_55, nI_add, pk_mul, xn_sub, xn_and, xn_or, xn_xor, xn_shl, xn_shr, xn_lt, xn_le, xn_eq, xrf_some, xup_eq, xup_ne, xrow_eq, xrow_ne, Option.toList_some, Option.toList_none, List.singleton_append, List.nil_append, List.cons_append, xnl_n, xnl_i, xnl_r, Nat.zero_add, Nat.add_zero, ↓reduceIte, Nat.reduceEqDiff, Nat.reduceLeDiff, Nat.reduceAdd, Nat.reduceMul, Nat.reduceLT, Nat.one_ne_zero, eq_self, not_true_eq_false, not_false_eq_true, and_self, xl_0, hr0, h8, xl_and, xl_int, h1]
        · by_cases h2 : rest % 256 ≤ 126
          · rw [if_pos (by omega), e256, ← ih (i + 1) (rest / 2 ^ 8) (some (.int (nI (rest % 256)))) (by omega) (by
              rw [Nat.div_lt_iff_lt_mul (by decide), ← Nat.pow_add]
              exact Nat.lt_of_lt_of_le hr (Nat.pow_le_pow_right (by decide) (by omega)))]
            simp (disch := (first | assumption | exact xnl_i _ | exact xnl_r _ | exact xnl_n | exact Bool.toNat_lt _ | exact hb _ | exact hb2 _ | omega | exact Nat.le_of_ble_eq_true rfl | rfl | decide)) only [pX3_charactersIn_0, pX3_charactersIn_1, pX3_charactersIn_2, pX3_charactersIn_3, pX3_charactersIn_6, pX3_charactersIn_7, pX3_charactersIn_8, pX3_charactersIn_11, pX3_charactersIn_13, pX3_charactersIn_15, pX3_charactersIn_18, pX3_charactersIn_19, pX3_charactersIn_22, pX3_charactersIn_23, pX3_charactersIn_24, pX3_charactersIn_26, pX3_charactersIn_28, pX3_charactersIn_30, pX3_charactersIn_33, pX3_charactersIn_35, pX3_charactersIn_37, pX3_charactersIn_40, pX3_charactersIn_41, pX3_charactersIn_42, pX3_charactersIn_43, pX3_charactersIn_45, pX3_charactersIn_46, pX3_charactersIn_47, pX3_charactersIn_50, pX3_charactersIn_53, pX3_charactersIn_55, nI_add, pk_mul, xn_sub, xn_and, xn_or, xn_xor, xn_shl, xn_shr, xn_lt, xn_le, xn_eq, xrf_some, xup_eq, xup_ne, xrow_eq, xrow_ne, Option.toList_some, Option.toList_none, List.singleton_append, List.nil_append, List.cons_append, xnl_n, xnl_i, xnl_r, Nat.zero_add, Nat.add_zero, ↓reduceIte, Nat.reduceEqDiff, Nat.reduceLeDiff, Nat.reduceAdd, Nat.reduceMul, Nat.reduceLT, Nat.one_ne_zero, eq_self, not_true_eq_false, not_false_eq_true, and_self, xl_0, hr0, h8, xl_and, xl_int, h1, h2, xl_shr]
          · rw [if_neg (by omega)]
            simp (disch := (first | assumption | exact xnl_i _ | exact xnl_r _ | exact xnl_n | exact Bool.toNat_lt _ | exact hb _ | exact hb2 _ | omega | exact Nat.le_of_ble_eq_true rfl | rfl | decide)) only [pX3_charactersIn_0, pX3_charactersIn_1, pX3_charactersIn_2, pX3_charactersIn_3, pX3_charactersIn_6, pX3_charactersIn_7, pX3_charactersIn_8, pX3_charactersIn_11, pX3_charactersIn_13, pX3_charactersIn_15, pX3_charactersIn_18, pX3_charactersIn_19, pX3_charactersIn_22, pX3_charactersIn_23, pX3_charactersIn_24, pX3_charactersIn_26, pX3_charactersIn_28, pX3_charactersIn_30, pX3_charactersIn_33, pX3_charactersIn_35, pX3_charactersIn_37, pX3_charactersIn_40, pX3_charactersIn_41, pX3_charactersIn_42, pX3_charactersIn_43, pX3_charactersIn_45, pX3_charactersIn_46, pX3_charactersIn_47, pX3_charactersIn_50, pX3_charactersIn_53, pX3_charactersIn_55, nI_add, pk_mul, xn_sub, xn_and, xn_or, xn_xor, xn_shl, xn_shr, xn_lt, xn_le, xn_eq, xrf_some, xup_eq, xup_ne, xrow_eq, xrow_ne, Option.toList_some, Option.toList_none, List.singleton_append, List.nil_append, List.cons_append, xnl_n, xnl_i, xnl_r, Nat.zero_add, Nat.add_zero, ↓reduceIte, Nat.reduceEqDiff, Nat.reduceLeDiff, Nat.reduceAdd, Nat.reduceMul, Nat.reduceLT, Nat.one_ne_zero, eq_self, not_true_eq_false, not_false_eq_true, and_self, xl_0, hr0, h8, xl_and, xl_int, h1, h2]
  show xX E mX3_charactersIn 0 [some (.long (lN n)), none, none, none, none, none] [] S V Q ↔ _
  simp (disch := (first | assumption | exact xnl_i _ | exact xnl_r _ | exact xnl_n | exact Bool.toNat_lt _ | exact hb _ | exact hb2 _ | omega | exact Nat.le_of_ble_eq_true rfl | rfl | decide)) only [pX3_charactersIn_0, pX3_charactersIn_1, pX3_charactersIn_2, pX3_charactersIn_3, nI_add, pk_mul, xn_sub, xn_and, xn_or, xn_xor, xn_shl, xn_shr, xn_lt, xn_le, xn_eq, xrf_some, xup_eq, xup_ne, xrow_eq, xrow_ne, Option.toList_some, Option.toList_none, List.singleton_append, List.nil_append, List.cons_append, xnl_n, xnl_i, xnl_r, Nat.zero_add, Nat.add_zero, ↓reduceIte, Nat.reduceEqDiff, Nat.reduceLeDiff, Nat.reduceAdd, Nat.reduceMul, Nat.reduceLT, Nat.one_ne_zero, eq_self, not_true_eq_false, not_false_eq_true, and_self]
  exact loop 8 0 n none rfl hn
theorem c_put {n : Nat} (hn : n < 2 ^ 64) (hR : cRep S V x g) (hG : gG g) (hQ : ∀ V', cRep S V' x (pput g n).2 → tOut V V' x → Q (some (.int (pput g n).1)) S V') : xC E mX4_put [.ref x, .long (lN n)] S V Q := by
  have hT := hR.1; obtain ⟨tk0, tr0, tr1, tr2, tr3, tr4, tr5, tnow, ttry, hk0, hr0, hk1, hn1, hms, sk0, sn0, sms, ik0, in0, pk0, pr0, pr2, pr3, qk1, qn1, qk2, qn2, qk3, qn3⟩ := hT; have hKn := tnow; obtain ⟨mk0, mr0, mr1, mr2, mk1, mn1, mk2, mn2, mk3, mn3, mcs⟩ := hKn; have hw := gs_wf hG.1; have hb := wf_b hw; have hN := hR.2.1; have tnow0 := tnow.1
  have hl := hR.2.2.2.2.1
  have h72 := hG.2.2.2.2.1
  show xX E mX4_put 0 [some (.ref x), some (.long (lN n)), none, none] [] S V Q
  unfold pput at hQ
  have hp8 : pcn n ≤ 8 := by have := pchars_le 8 n 0; unfold pcn; omega
  by_cases h0 : pcn n = 0
  · rw [if_pos h0] at hQ
    simp (disch := (first | assumption | exact xnl_i _ | exact xnl_r _ | exact xnl_n | exact Bool.toNat_lt _ | exact hb _ | exact hb2 _ | omega | exact Nat.le_of_ble_eq_true rfl | rfl | decide)) only [pX4_put_0, pX4_put_1, pX4_put_4, pX4_put_5, pX4_put_6, pX4_put_9, pX4_put_11, nI_add, pk_mul, xn_sub, xn_and, xn_or, xn_xor, xn_shl, xn_shr, xn_lt, xn_le, xn_eq, xrf_some, xup_eq, xup_ne, xrow_eq, xrow_ne, Option.toList_some, Option.toList_none, List.singleton_append, List.nil_append, List.cons_append, xnl_n, xnl_i, xnl_r, Nat.zero_add, Nat.add_zero, ↓reduceIte, Nat.reduceEqDiff, Nat.reduceLeDiff, Nat.reduceAdd, Nat.reduceMul, Nat.reduceLT, Nat.one_ne_zero, eq_self, not_true_eq_false, not_false_eq_true, and_self, k_charsIn hn, h0]
    exact hQ _ hR tOut_r
  · rw [if_neg h0] at hQ
    by_cases h : 72 < gln g + pcn n
    · rw [if_pos h] at hQ
      have h' : ¬ gln g + pcn n ≤ 72 := by omega
      simp (disch := (first | assumption | exact xnl_i _ | exact xnl_r _ | exact xnl_n | exact Bool.toNat_lt _ | exact hb _ | exact hb2 _ | omega | exact Nat.le_of_ble_eq_true rfl | rfl | decide)) only [pX4_put_0, pX4_put_1, pX4_put_4, pX4_put_5, pX4_put_6, pX4_put_9, pX4_put_11, pX4_put_12, pX4_put_13, pX4_put_16, pX4_put_19, pX4_put_20, pX4_put_21, pX4_put_23, pX4_put_26, pX4_put_28, nI_add, pk_mul, xn_sub, xn_and, xn_or, xn_xor, xn_shl, xn_shr, xn_lt, xn_le, xn_eq, xrf_some, xup_eq, xup_ne, xrow_eq, xrow_ne, Option.toList_some, Option.toList_none, List.singleton_append, List.nil_append, List.cons_append, xnl_n, xnl_i, xnl_r, Nat.zero_add, Nat.add_zero, ↓reduceIte, Nat.reduceEqDiff, Nat.reduceLeDiff, Nat.reduceAdd, Nat.reduceMul, Nat.reduceLT, Nat.one_ne_zero, eq_self, not_true_eq_false, not_false_eq_true, and_self, k_charsIn hn, h0, tk0, tr0, tr1, tr2, tr3, tr4, tr5, pk0, hl, h']
      exact hQ _ hR tOut_r
    · rw [if_neg h] at hQ
      have h' : gln g + pcn n ≤ 72 := by omega
      generalize hm : pcn n = m at h0 hp8 h h' hQ
      obtain ⟨R, hRd⟩ : ∃ R : Nat → Nat → Int32, R = fun j i => if gln g ≤ i ∧ i < gln g + j then nI (n / 2 ^ (8 * (m - 1 - (i - gln g))) % 256) else V (x + 358) i := ⟨_, rfl⟩
      have hR0 : R 0 = V (x + 358) := by rw [hRd]; funext i; dsimp only; rw [if_neg (by omega)]
      have hRs : ∀ j, (fun i => if i = gln g + j then nI (n / 2 ^ (8 * (m - 1 - j)) % 256) else R j i) = R (j + 1) := by
        intro j
        rw [hRd]; funext i
        dsimp only
        by_cases hi : i = gln g + j
        · rw [if_pos hi, if_pos (by omega), show i - gln g = j by omega]
        · rw [if_neg hi]
          by_cases hi2 : gln g ≤ i ∧ i < gln g + j
          · rw [if_pos hi2, if_pos (by omega)]
          · rw [if_neg hi2, if_neg (by omega)]
      have app : ∀ k j W, j + k = m → (∀ a, ¬ a = x + 357 → ¬ a = x + 358 → W a = V a) → W (x + 357) 1 = nI (gln g + j) → W (x + 358) = R j → ∃ W', (∀ a, ¬ a = x + 357 → ¬ a = x + 358 → W' a = V a) ∧ W' (x + 357) 1 = nI (gln g + m) ∧ W' (x + 358) = R m ∧ ∀ Q : Option Value → xSh → xV → Prop, xX E mX3_append 5 [some (.ref (x + 357)), some (.long (lN n)), none, some (.int (nI m)), some (.int (match k with | 0 => -1 | k + 1 => nI k))] [] S W Q ↔ Q none S W' := by
        intro k
        induction k with
        | zero =>
          intro j W hj ho hw1 hw2
          have hj : j = m := by omega
          subst hj
          have hneg : (-1 : Int32) < nI 0 := by decide
          refine ⟨W, ho, hw1, hw2, fun Q => ?_⟩
          simp (disch := (first | assumption | exact xnl_i _ | exact xnl_r _ | exact xnl_n | exact Bool.toNat_lt _ | exact hb _ | exact hb2 _ | omega | exact Nat.le_of_ble_eq_true rfl | rfl | decide)) only [pX3_append_0, pX3_append_1, pX3_append_2, pX3_append_3, pX3_append_5, pX3_append_7, pX3_append_10, pX3_append_11, pX3_append_14, pX3_append_16, pX3_append_19, pX3_append_20, pX3_append_23, pX3_append_24, pX3_append_27, pX3_append_28, pX3_append_30, pX3_append_32, pX3_append_33, pX3_append_34, pX3_append_37, pX3_append_38, pX3_append_39, pX3_append_40, pX3_append_41, pX3_append_42, pX3_append_42i, pX3_append_43, pX3_append_46, pX3_append_47, pX3_append_48, pX3_append_51, pX3_append_54, pX3_append_57, nI_add, pk_mul, xn_sub, xn_and, xn_or, xn_xor, xn_shl, xn_shr, xn_lt, xn_le, xn_eq, xrf_some, xup_eq, xup_ne, xrow_eq, xrow_ne, Option.toList_some, Option.toList_none, List.singleton_append, List.nil_append, List.cons_append, xnl_n, xnl_i, xnl_r, Nat.zero_add, Nat.add_zero, ↓reduceIte, Nat.reduceEqDiff, Nat.reduceLeDiff, Nat.reduceAdd, Nat.reduceMul, Nat.reduceLT, Nat.one_ne_zero, eq_self, not_true_eq_false, not_false_eq_true, and_self, hneg]
        | succ k ih =>
          intro j W hj ho hw1 hw2
          have hlt : ¬ 72 ≤ gln g + j := by omega
          have hmk : m - 1 - j = k := by omega
          have hsh : 8 * k < 64 := by omega
          have hr2 : n / 2 ^ (8 * k) < 2 ^ 64 := Nat.lt_of_le_of_lt (Nat.div_le_self _ _) hn
          have hr3 : n / 2 ^ (8 * k) % 256 < 256 := Nat.mod_lt _ (by decide)
          have hw1' : xup W (x + 358) (gln g + j) (nI (n / 2 ^ (8 * k) % 256)) (x + 357) 1 = nI (gln g + j) := by rw [xup_ne (by omega)]; exact hw1
          obtain ⟨W', a1, a2, a3, a4⟩ := ih (j + 1) (xup (xup W (x + 358) (gln g + j) (nI (n / 2 ^ (8 * k) % 256))) (x + 357) 1 (nI (gln g + j + 1))) (by omega) (fun a h1 h2 => by rw [xup_rn h1, xup_rn h2]; exact ho a h1 h2) xup_eq (by
            rw [xup_rn (by omega), ← hRs, hmk]
            funext i
            unfold xup
            by_cases hi : i = gln g + j
            · rw [if_pos ⟨rfl, hi⟩, if_pos hi]
            · rw [if_neg (fun z => hi z.2), if_neg hi, hw2])
          refine ⟨W', a1, a2, a3, fun Q => ?_⟩
          refine Iff.trans ?_ (a4 Q)
          rw [pX3_append_5]
          cases k with
          | zero =>
            simp (disch := (first | assumption | exact xnl_i _ | exact xnl_r _ | exact xnl_n | exact Bool.toNat_lt _ | exact hb _ | exact hb2 _ | omega | exact Nat.le_of_ble_eq_true rfl | rfl | decide)) only [pX3_append_0, pX3_append_1, pX3_append_2, pX3_append_3, pX3_append_7, pX3_append_10, pX3_append_11, pX3_append_14, pX3_append_16, pX3_append_19, pX3_append_20, pX3_append_23, pX3_append_24, pX3_append_27, pX3_append_28, pX3_append_30, pX3_append_32, pX3_append_33, pX3_append_34, pX3_append_37, pX3_append_38, pX3_append_39, pX3_append_40, pX3_append_41, pX3_append_42, pX3_append_42i, pX3_append_43, pX3_append_46, pX3_append_47, pX3_append_48, pX3_append_54, pX3_append_57, append_51m, nI_add, pk_mul, xn_sub, xn_and, xn_or, xn_xor, xn_shl, xn_shr, xn_lt, xn_le, xn_eq, xrf_some, xup_eq, xup_ne, xrow_eq, xrow_ne, Option.toList_some, Option.toList_none, List.singleton_append, List.nil_append, List.cons_append, xnl_n, xnl_i, xnl_r, Nat.zero_add, Nat.add_zero, ↓reduceIte, Nat.reduceEqDiff, Nat.reduceLeDiff, Nat.reduceAdd, Nat.reduceMul, Nat.reduceLT, Nat.one_ne_zero, eq_self, not_true_eq_false, not_false_eq_true, and_self, Nat.lt_irrefl, pk0, pr0, pr2, pr3, hw1, hw1', hlt, xl_shr, xl_and, xl_int, i2c_n]
          | succ k =>
            simp (disch := (first | assumption | exact xnl_i _ | exact xnl_r _ | exact xnl_n | exact Bool.toNat_lt _ | exact hb _ | exact hb2 _ | omega | exact Nat.le_of_ble_eq_true rfl | rfl | decide)) only [pX3_append_0, pX3_append_1, pX3_append_2, pX3_append_3, pX3_append_7, pX3_append_10, pX3_append_11, pX3_append_14, pX3_append_16, pX3_append_19, pX3_append_20, pX3_append_23, pX3_append_24, pX3_append_27, pX3_append_28, pX3_append_30, pX3_append_32, pX3_append_33, pX3_append_34, pX3_append_37, pX3_append_38, pX3_append_39, pX3_append_40, pX3_append_41, pX3_append_42, pX3_append_42i, pX3_append_43, pX3_append_46, pX3_append_47, pX3_append_48, pX3_append_51, pX3_append_54, pX3_append_57, nI_add, pk_mul, xn_sub, xn_and, xn_or, xn_xor, xn_shl, xn_shr, xn_lt, xn_le, xn_eq, xrf_some, xup_eq, xup_ne, xrow_eq, xrow_ne, Option.toList_some, Option.toList_none, List.singleton_append, List.nil_append, List.cons_append, xnl_n, xnl_i, xnl_r, Nat.zero_add, Nat.add_zero, ↓reduceIte, Nat.reduceEqDiff, Nat.reduceLeDiff, Nat.reduceAdd, Nat.reduceMul, Nat.reduceLT, Nat.one_ne_zero, eq_self, not_true_eq_false, not_false_eq_true, and_self, Nat.not_lt_zero, pk0, pr0, pr2, pr3, hw1, hw1', hlt, xl_shr, xl_and, xl_int, i2c_n]
      obtain ⟨W', a1, a2, a3, a4⟩ := app m 0 V (by omega) (fun _ _ _ => rfl) hl hR0.symm
      have happ : ∀ Q : Option Value → xSh → xV → Prop, xC E mX3_append [.ref (x + 357), .long (lN n), .int (nI m)] S V Q ↔ Q none S W' := by
        intro Q
        refine Iff.trans ?_ (a4 Q)
        show xX E mX3_append 0 [some (.ref (x + 357)), some (.long (lN n)), none, some (.int (nI m)), none] [] S V Q ↔ _
        cases m with
        | zero => omega
        | succ m =>
          simp (disch := (first | assumption | exact xnl_i _ | exact xnl_r _ | exact xnl_n | exact Bool.toNat_lt _ | exact hb _ | exact hb2 _ | omega | exact Nat.le_of_ble_eq_true rfl | rfl | decide)) only [pX3_append_0, pX3_append_1, pX3_append_2, pX3_append_3, nI_add, pk_mul, xn_sub, xn_and, xn_or, xn_xor, xn_shl, xn_shr, xn_lt, xn_le, xn_eq, xrf_some, xup_eq, xup_ne, xrow_eq, xrow_ne, Option.toList_some, Option.toList_none, List.singleton_append, List.nil_append, List.cons_append, xnl_n, xnl_i, xnl_r, Nat.zero_add, Nat.add_zero, ↓reduceIte, Nat.reduceEqDiff, Nat.reduceLeDiff, Nat.reduceAdd, Nat.reduceMul, Nat.reduceLT, Nat.one_ne_zero, eq_self, not_true_eq_false, not_false_eq_true, and_self, Nat.add_sub_cancel]
      have hchars : ∀ Q : Option Value → xSh → xV → Prop, xC E mX3_charactersIn [.long (lN n)] S V Q ↔ Q (some (.int (nI m))) S V := fun Q => by rw [← hm]; exact k_charsIn hn
      simp (disch := (first | assumption | exact xnl_i _ | exact xnl_r _ | exact xnl_n | exact Bool.toNat_lt _ | exact hb _ | exact hb2 _ | omega | exact Nat.le_of_ble_eq_true rfl | rfl | decide)) only [pX4_put_0, pX4_put_1, pX4_put_4, pX4_put_5, pX4_put_6, pX4_put_9, pX4_put_11, pX4_put_12, pX4_put_13, pX4_put_16, pX4_put_19, pX4_put_20, pX4_put_21, pX4_put_23, pX4_put_26, pX4_put_28, pX4_put_29, pX4_put_30, pX4_put_33, pX4_put_34, pX4_put_35, pX4_put_38, pX4_put_39, pX4_put_42, pX4_put_45, nI_add, pk_mul, xn_sub, xn_and, xn_or, xn_xor, xn_shl, xn_shr, xn_lt, xn_le, xn_eq, xrf_some, xup_eq, xup_ne, xrow_eq, xrow_ne, Option.toList_some, Option.toList_none, List.singleton_append, List.nil_append, List.cons_append, xnl_n, xnl_i, xnl_r, Nat.zero_add, Nat.add_zero, ↓reduceIte, Nat.reduceEqDiff, Nat.reduceLeDiff, Nat.reduceAdd, Nat.reduceMul, Nat.reduceLT, Nat.one_ne_zero, eq_self, not_true_eq_false, not_false_eq_true, and_self, hchars, h0, tk0, tr0, tr1, tr2, tr3, tr4, tr5, pk0, hl, h', happ, a2]
      obtain ⟨t1, t2, t3, t4, t5⟩ := hR
      refine hQ _ ⟨t1, kM_e t2 (fun a _ _ => a1 a (by omega) (by omega)), hRep_o t3 (fun a _ _ => a1 a (by omega) (by omega)), sRep_o t4 (fun a _ _ _ => a1 a (by omega) (by omega)), a2, fun i hi => ?_⟩ (fun a ha => a1 a (by omega) (by omega))
      have hi : i < gln g + m := hi
      show _ = nI (if i < gln g then gpd g i else n / 2 ^ (8 * (m - 1 - (i - gln g))) % 256)
      rw [a3, hRd]
      dsimp only
      by_cases hil : i < gln g
      · rw [if_neg (by omega), if_pos hil]; exact t5.2 i hil
      · rw [if_pos (by omega), if_neg hil]
end KPU
