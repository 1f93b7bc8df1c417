/-! ===== the class: accounts, commands, a slot ===== -/
theorem psum_up {σ : Nat → Nat} {c w : Nat} (hc : c < 8) (hw : w < 62) : psum (su σ (62 * c + w) (σ (62 * c + w) + 1)) w 8 = psum σ w 8 + 1 := by
  have : ∀ n, psum (su σ (62 * c + w) (σ (62 * c + w) + 1)) w n = psum σ w n + if c < n then 1 else 0 := by
    intro n
    induction n with
    | zero => rfl
    | succ n ih =>
      unfold psum
      rw [ih]
      by_cases h : n = c
      · subst h; rw [su_eq, if_neg (by omega), if_pos (by omega)]; omega
      · rw [su_ne (by omega)]
        by_cases h2 : c < n
        · rw [if_pos h2, if_pos (by omega)]; omega
        · rw [if_neg h2, if_neg (by omega)]; omega
  rw [this 8, if_pos hc]
theorem psum_su {σ : Nat → Nat} {c w j v : Nat} (hw : w < 62) (hj : j < 62) (h : ¬ j = w) : psum (su σ (62 * c + j) v) w 8 = psum σ w 8 := psum_c (fun d _ => su_ne (by omega))
section KSL
variable {E : Nat × Nat × Nat} {S : xSh} {V V' W : xV} {Q : Option Value → xSh → xV → Prop} {mb c : Nat} {σ : Nat → Nat}
theorem kN_c2 {τ : Nat → Nat} (h : kN V mb σ) (hw : ∀ d, d < 8 → σ (62 * d + 4) ≤ 4 ∧ σ (62 * d) ≤ 16) (hv : ∀ a, ¬ a = mb → (a < mb + (4 + 5 * c) ∨ mb + (4 + 5 * c) + 4 < a) → V' a = V a) (hs : ∀ i, i < 62 * c ∨ 62 * c + 62 ≤ i → τ i = σ i) (hk : kC V' (mb + (4 + 5 * c)) τ c) (h4 : V' mb 4 = nI (psum τ 13 8)) (h5 : V' mb 5 = nI (psum τ 12 8)) (hc : c < 8) : kN V' mb τ := by
  obtain ⟨h1, h2, _, _⟩ := h
  refine ⟨fun d hd => ?_, fun k hk => ?_, h4, h5⟩
  · by_cases hdc : d = c
    · subst hdc; exact hk
    · exact kC_o (kC_σ (h1 d hd) (hw d hd).1 (hw d hd).2 (fun i h1 h2 => hs i (by omega))) (fun a h1 h2 => hv a (by omega) (by omega))
  · rw [hv (mb + 2) (by omega) (by omega), hs _ (by omega)]; exact h2 k hk
theorem kN_h {k v : Nat} (h : kN V mb σ) (hw : ∀ d, d < 8 → σ (62 * d + 4) ≤ 4 ∧ σ (62 * d) ≤ 16) (hk : k < 4) : kN (xup V (mb + 2) k (hI v)) mb (su σ (497 + k) v) := by
  obtain ⟨h1, h2, h4, h5⟩ := h
  refine ⟨fun d hd => kC_o (kC_σ (h1 d hd) (hw d hd).1 (hw d hd).2 (fun i h1 h2 => su_ne (by omega))) (fun a h1 h2 => xup_rn (by omega)), fun j hj => ?_, ?_, ?_⟩
  · by_cases hjk : j = k
    · subst hjk; rw [xup_eq, su_eq]
    · rw [xup_ne (by omega), su_ne (by omega)]; exact h2 j hj
  · rw [xup_ne (by omega), psum_c (σ := σ) (fun d hd => su_ne (by omega))]; exact h4
  · rw [xup_ne (by omega), psum_c (σ := σ) (fun d hd => su_ne (by omega))]; exact h5
theorem k_account {own N : Nat} {r : Option Nat} (hS : kShape S mb) (hK : kN V mb σ) (hA : wfA σ N) (ho : own < 8) (hr : ∀ c, r = some c → c < 8) : ∃ V', kN V' mb (pacct σ own r) ∧ V' mb 3 = V mb 3 ∧ kOut V V' mb ∧ ∀ Q : Option Value → xSh → xV → Prop, xC E mX2_account [.ref mb, .int (nI own), .int (rv r)] S V Q ↔ Q none S V' := by
  have hS' := hS
  obtain ⟨mk0, mr0, mr1, mr2, mk1, mn1, mk2, mn2, mk3, mn3, mcs⟩ := hS'
  have hw : ∀ d, d < 8 → σ (62 * d + 4) ≤ 4 ∧ σ (62 * d) ≤ 16 := fun d hd => ⟨(hA.2.2.1 d hd).2.2.2.2.1, (hA.2.2.1 d hd).1⟩
  have hb : ∀ i, σ i < 2147483648 := fun i => Nat.lt_of_le_of_lt (hA.1 i) (by decide)
  obtain ⟨mro, hos⟩ := mcs own ho
  obtain ⟨ok0, or0, or1, or2, or3, ok1, on1, ok2, on2, ok3, on3, ok4, on4⟩ := hos
  have hKo := hK.1 own ho
  have hcdo := hKo.2.2.2.2.2.2.2.2.2.2
  have m4 := hK.2.2.1
  have m5 := hK.2.2.2
  cases r with
  | none =>
    have a3 := hcdo 3 (by decide)
    refine ⟨xup (xup V mb 4 (nI (psum σ 13 8 + 1))) (mb + (4 + 5 * own) + 4) 3 (nI (σ (62 * own + (10 + 3)) + 1)), ?_, ?_, kOut_t (kOut_up (by omega)) (kOut_up (by omega)), fun Q => ?_⟩
    · have hkc : kC (xup V mb 4 (nI (psum σ 13 8 + 1))) (mb + (4 + 5 * own)) σ own := kC_o hKo (fun a h1 h2 => xup_rn (by omega))
      refine kN_c2 hK hw (fun a h1 h2 => by rw [xup_rn (by omega), xup_rn (by omega)]) (fun i hi => su_ne (by omega)) (kC_acct hkc (by decide) (hw own ho).1) ?_ ?_ ho
      · rw [xup_ne (by omega), xup_eq]
        exact congrArg nI (psum_up (w := 13) ho (by decide)).symm
      · rw [xup_ne (by omega), xup_ne (by omega), m5]
        exact congrArg nI (psum_su (j := 13) (by decide) (by decide) (by decide)).symm
    · rw [xup_ne (by omega), xup_ne (by omega)]
    · show xX E mX2_account 0 [some (.ref mb), some (.int (nI own)), some (.int (rv none))] [] S V Q ↔ _
      simp (disch := (first | assumption | exact xnl_i _ | exact xnl_r _ | exact xnl_n | exact Bool.toNat_lt _ | exact hb _ | exact hb2 _ | omega | exact Nat.le_of_ble_eq_true rfl | rfl | decide)) only [pX2_account_0, pX2_account_1, pX2_account_3, pX2_account_6, pX2_account_7, pX2_account_7i, pX2_account_8, pX2_account_11, pX2_account_12, pX2_account_13, pX2_account_16, pX2_account_17, pX2_account_20, pX2_account_21, pX2_account_22, pX2_account_25, pX2_account_26, pX2_account_27, pX2_account_28, pX2_account_29, pX2_account_30, pX2_account_31, pX2_account_34, pX2_account_35, pX2_account_36, pX2_account_39, pX2_account_40, pX2_account_43, pX2_account_44, pX2_account_45, pX2_account_48, pX2_account_49, pX2_account_50, pX2_account_51, pX2_account_52, pX2_account_53, pX2_account_54, pX2_account_57, pX2_account_58, pX2_account_58i, pX2_account_59, pX2_account_62, pX2_account_63, pX2_account_64, pX2_account_67, pX2_account_68, pX2_account_71, pX2_account_72, pX2_account_73, pX2_account_76, pX2_account_77, pX2_account_78, pX2_account_79, pX2_account_80, pX2_account_81, pX2_account_82, pX2_account_83, pX2_account_86, pX2_account_87, pX2_account_88, pX2_account_91, pX2_account_92, pX2_account_93, pX2_account_94, pX2_account_95, pX2_account_96, pX2_account_97, nI_add, pk_mul, xn_sub, xn_and, xn_or, xn_xor, xn_shl, xn_shr, xn_lt, xn_le, xn_eq, xrf_some, xup_eq, xup_ne, xrow_eq, xrow_ne, Option.toList_some, Option.toList_none, List.singleton_append, List.nil_append, List.cons_append, xnl_n, xnl_i, xnl_r, Nat.zero_add, Nat.add_zero, ↓reduceIte, Nat.reduceEqDiff, Nat.reduceLeDiff, Nat.reduceAdd, Nat.reduceMul, Nat.reduceLT, Nat.one_ne_zero, eq_self, not_true_eq_false, not_false_eq_true, and_self, mk0, mr0, mr1, mr2, rv, m4, mro, ok0, or3, a3]
  | some d =>
    have hd := hr d rfl
    by_cases hdo : d = own
    · subst hdo
      have a0 := hcdo 0 (by decide)
      refine ⟨xup V (mb + (4 + 5 * d) + 4) 0 (nI (σ (62 * d + (10 + 0)) + 1)), ?_, ?_, kOut_up (by omega), fun Q => ?_⟩
      · rw [pacct_own]
        exact kN_c hK hw hd (cOut_up (by omega)) (fun i hi => su_ne (by omega)) (kC_acct (q := 0) hKo (by decide) (hw d hd).1) (su_ne (by omega)) (su_ne (by omega))
      · rw [xup_ne (by omega)]
      · show xX E mX2_account 0 [some (.ref mb), some (.int (nI d)), some (.int (nI d))] [] S V Q ↔ _
        simp (disch := (first | assumption | exact xnl_i _ | exact xnl_r _ | exact xnl_n | exact Bool.toNat_lt _ | exact hb _ | exact hb2 _ | omega | exact Nat.le_of_ble_eq_true rfl | rfl | decide)) only [pX2_account_0, pX2_account_1, pX2_account_3, pX2_account_6, pX2_account_7, pX2_account_7i, pX2_account_8, pX2_account_11, pX2_account_12, pX2_account_13, pX2_account_16, pX2_account_17, pX2_account_20, pX2_account_21, pX2_account_22, pX2_account_25, pX2_account_26, pX2_account_27, pX2_account_28, pX2_account_29, pX2_account_30, pX2_account_31, pX2_account_34, pX2_account_35, pX2_account_36, pX2_account_39, pX2_account_40, pX2_account_43, pX2_account_44, pX2_account_45, pX2_account_48, pX2_account_49, pX2_account_50, pX2_account_51, pX2_account_52, pX2_account_53, pX2_account_54, pX2_account_57, pX2_account_58, pX2_account_58i, pX2_account_59, pX2_account_62, pX2_account_63, pX2_account_64, pX2_account_67, pX2_account_68, pX2_account_71, pX2_account_72, pX2_account_73, pX2_account_76, pX2_account_77, pX2_account_78, pX2_account_79, pX2_account_80, pX2_account_81, pX2_account_82, pX2_account_83, pX2_account_86, pX2_account_87, pX2_account_88, pX2_account_91, pX2_account_92, pX2_account_93, pX2_account_94, pX2_account_95, pX2_account_96, pX2_account_97, nI_add, pk_mul, xn_sub, xn_and, xn_or, xn_xor, xn_shl, xn_shr, xn_lt, xn_le, xn_eq, xrf_some, xup_eq, xup_ne, xrow_eq, xrow_ne, Option.toList_some, Option.toList_none, List.singleton_append, List.nil_append, List.cons_append, xnl_n, xnl_i, xnl_r, Nat.zero_add, Nat.add_zero, ↓reduceIte, Nat.reduceEqDiff, Nat.reduceLeDiff, Nat.reduceAdd, Nat.reduceMul, Nat.reduceLT, Nat.one_ne_zero, eq_self, not_true_eq_false, not_false_eq_true, and_self, mk0, mr0, mr1, mr2, xn_ne6, mro, ok0, or3, a0]
    · have a2 := hcdo 2 (by decide)
      obtain ⟨mrd, hds⟩ := mcs d hd
      obtain ⟨dk0, dr0, dr1, dr2, dr3, dk1, dn1, dk2, dn2, dk3, dn3, dk4, dn4⟩ := hds
      have a1 := (hK.1 d hd).2.2.2.2.2.2.2.2.2.2 1 (by decide)
      refine ⟨xup (xup (xup V mb 5 (nI (psum σ 12 8 + 1))) (mb + (4 + 5 * own) + 4) 2 (nI (σ (62 * own + (10 + 2)) + 1))) (mb + (4 + 5 * d) + 4) 1 (nI (σ (62 * d + (10 + 1)) + 1)), ?_, ?_, kOut_t (kOut_up (by omega)) (kOut_t (kOut_up (by omega)) (kOut_up (by omega))), fun Q => ?_⟩
      · rw [pacct_oth hdo]
        have hkc : kC (xup V mb 5 (nI (psum σ 12 8 + 1))) (mb + (4 + 5 * own)) σ own := kC_o hKo (fun a h1 h2 => xup_rn (by omega))
        have h1 : kN (xup (xup V mb 5 (nI (psum σ 12 8 + 1))) (mb + (4 + 5 * own) + 4) 2 (nI (σ (62 * own + (10 + 2)) + 1))) mb (su σ (62 * own + (10 + 2)) (σ (62 * own + (10 + 2)) + 1)) := by
          refine kN_c2 hK hw (fun a h1 h2 => by rw [xup_rn (by omega), xup_rn (by omega)]) (fun i hi => su_ne (by omega)) (kC_acct (q := 2) hkc (by decide) (hw own ho).1) ?_ ?_ ho
          · rw [xup_ne (by omega), xup_ne (by omega), m4]
            exact congrArg nI (psum_su (j := 12) (by decide) (by decide) (by decide)).symm
          · rw [xup_ne (by omega), xup_eq]
            exact congrArg nI (psum_up (w := 12) ho (by decide)).symm
        have hw2 : ∀ e, e < 8 → su σ (62 * own + (10 + 2)) (σ (62 * own + (10 + 2)) + 1) (62 * e + 4) ≤ 4 ∧ su σ (62 * own + (10 + 2)) (σ (62 * own + (10 + 2)) + 1) (62 * e) ≤ 16 := fun e he => by
          rw [su_ne (by omega), su_ne (by omega)]; exact hw e he
        exact kN_c h1 hw2 hd (cOut_up (by omega)) (fun i hi => su_ne (by omega)) (kC_acct (q := 1) (h1.1 d hd) (by decide) (hw2 d hd).1) (su_ne (by omega)) (su_ne (by omega))
      · rw [xup_ne (by omega), xup_ne (by omega), xup_ne (by omega)]
      · have hdo' : ¬ own = d := fun z => hdo z.symm
        show xX E mX2_account 0 [some (.ref mb), some (.int (nI own)), some (.int (nI d))] [] S V Q ↔ _
        simp (disch := (first | assumption | exact xnl_i _ | exact xnl_r _ | exact xnl_n | exact Bool.toNat_lt _ | exact hb _ | exact hb2 _ | omega | exact Nat.le_of_ble_eq_true rfl | rfl | decide)) only [pX2_account_0, pX2_account_1, pX2_account_3, pX2_account_6, pX2_account_7, pX2_account_7i, pX2_account_8, pX2_account_11, pX2_account_12, pX2_account_13, pX2_account_16, pX2_account_17, pX2_account_20, pX2_account_21, pX2_account_22, pX2_account_25, pX2_account_26, pX2_account_27, pX2_account_28, pX2_account_29, pX2_account_30, pX2_account_31, pX2_account_34, pX2_account_35, pX2_account_36, pX2_account_39, pX2_account_40, pX2_account_43, pX2_account_44, pX2_account_45, pX2_account_48, pX2_account_49, pX2_account_50, pX2_account_51, pX2_account_52, pX2_account_53, pX2_account_54, pX2_account_57, pX2_account_58, pX2_account_58i, pX2_account_59, pX2_account_62, pX2_account_63, pX2_account_64, pX2_account_67, pX2_account_68, pX2_account_71, pX2_account_72, pX2_account_73, pX2_account_76, pX2_account_77, pX2_account_78, pX2_account_79, pX2_account_80, pX2_account_81, pX2_account_82, pX2_account_83, pX2_account_86, pX2_account_87, pX2_account_88, pX2_account_91, pX2_account_92, pX2_account_93, pX2_account_94, pX2_account_95, pX2_account_96, pX2_account_97, nI_add, pk_mul, xn_sub, xn_and, xn_or, xn_xor, xn_shl, xn_shr, xn_lt, xn_le, xn_eq, xrf_some, xup_eq, xup_ne, xrow_eq, xrow_ne, Option.toList_some, Option.toList_none, List.singleton_append, List.nil_append, List.cons_append, xnl_n, xnl_i, xnl_r, Nat.zero_add, Nat.add_zero, ↓reduceIte, Nat.reduceEqDiff, Nat.reduceLeDiff, Nat.reduceAdd, Nat.reduceMul, Nat.reduceLT, Nat.one_ne_zero, eq_self, not_true_eq_false, not_false_eq_true, and_self, mk0, mr0, mr1, mr2, xn_ne6, hdo, m5, mro, ok0, or3, a2, mrd, dk0, dr3, a1]
theorem k_runs {N : Nat} (hS : kShape S mb) (hK : kN V mb σ) (hA : wfA σ N) (hc : c < 8) (hpl : σ (62 * c + 1) < σ (62 * c)) (hr : pcmd σ c (σ (62 * c + 1)) = 1 → ¬ σ (62 * parg σ c (σ (62 * c + 1)) + 4) = 4) (ht : pcmd σ c (σ (62 * c + 1)) = 2 → 0 < σ (62 * c + 4)) : ∃ V', kN V' mb (pruns σ c) ∧ V' mb 3 = V mb 3 ∧ kOut V V' mb ∧ ∀ Q : Option Value → xSh → xV → Prop, xC E mX2_runNextOf [.ref mb, .int (nI c)] S V Q ↔ Q none S V' := by
  have hS' := hS
  obtain ⟨mk0, mr0, mr1, mr2, mk1, mn1, mk2, mn2, mk3, mn3, mcs⟩ := hS'
  have hwA : ∀ τ, wfA τ N → ∀ d, d < 8 → τ (62 * d + 4) ≤ 4 ∧ τ (62 * d) ≤ 16 := fun τ hA d hd => ⟨(hA.2.2.1 d hd).2.2.2.2.1, (hA.2.2.1 d hd).1⟩
  have hw := hwA σ hA
  have hb : ∀ i, σ i < 2147483648 := fun i => Nat.lt_of_le_of_lt (hA.1 i) (by decide)
  obtain ⟨mrc, hcs⟩ := mcs c hc
  have hcs0 := hcs
  obtain ⟨ck0, cr0, cr1, cr2, cr3, ck1, cn1, ck2, cn2, ck3, cn3, ck4, cn4⟩ := hcs
  have hKc := hK.1 c hc
  have hKc0 := hKc
  obtain ⟨c4, c5, c6, c7, c8, c9, c10, ca, cb, cc, cd⟩ := hKc0
  obtain ⟨w1, w2, w3, w4, w5, w6, w7, w8, w9⟩ := hA.2.2.1 c hc
  obtain ⟨hok, hmk⟩ := w9 _ hpl
  have hok : pok (pcmd σ c (σ (62 * c + 1))) (parg σ c (σ (62 * c + 1))) := hok
  have hca := ca _ hpl
  have hcb := cb _ hpl
  have hp16 : σ (62 * c + 1) < 16 := by omega
  have hrunsd : pruns σ c = pruns σ c := rfl
  unfold pruns at hrunsd
  have hA1 := wfA_1 (v := σ (62 * c + 1) + 1) hA hc hpl
  have hk1 : kN (xup V (mb + (4 + 5 * c)) 6 (nI (σ (62 * c + 1) + 1))) mb (su σ (62 * c + 1) (σ (62 * c + 1) + 1)) := kN_c hK hw hc (cOut_up (by omega)) (fun i hi => su_ne (by omega)) (kC_plain hKc (by omega) w5) (su_ne (by omega)) (su_ne (by omega))
  have o1 : V (mb + (4 + 5 * c)) = V (mb + (4 + 5 * c)) := rfl
  have head : ∀ Q : Option Value → xSh → xV → Prop, xX E mX2_runNextOf 0 [some (.ref mb), some (.int (nI c)), none, none, none] [] S V Q ↔ xX E mX2_runNextOf 28 [some (.ref mb), some (.int (nI c)), some (.ref (mb + (4 + 5 * c))), some (.int (nI (pcmd σ c (σ (62 * c + 1))))), some (.int (nI (parg σ c (σ (62 * c + 1)))))] [] S V Q := by
    intro Q
    simp (disch := (first | assumption | exact xnl_i _ | exact xnl_r _ | exact xnl_n | exact Bool.toNat_lt _ | exact hb _ | exact hb2 _ | omega | exact Nat.le_of_ble_eq_true rfl | rfl | decide)) only [pX2_runNextOf_0, pX2_runNextOf_1, pX2_runNextOf_4, pX2_runNextOf_5, pX2_runNextOf_6, pX2_runNextOf_7, pX2_runNextOf_8, pX2_runNextOf_11, pX2_runNextOf_12, pX2_runNextOf_15, pX2_runNextOf_16, pX2_runNextOf_17, pX2_runNextOf_18, pX2_runNextOf_21, pX2_runNextOf_22, pX2_runNextOf_25, pX2_runNextOf_26, nI_add, pk_mul, xn_sub, xn_and, xn_or, xn_xor, xn_shl, xn_shr, xn_lt, xn_le, xn_eq, xrf_some, xup_eq, xup_ne, xrow_eq, xrow_ne, Option.toList_some, Option.toList_none, List.singleton_append, List.nil_append, List.cons_append, xnl_n, xnl_i, xnl_r, Nat.zero_add, Nat.add_zero, ↓reduceIte, Nat.reduceEqDiff, Nat.reduceLeDiff, Nat.reduceAdd, Nat.reduceMul, Nat.reduceLT, Nat.one_ne_zero, eq_self, not_true_eq_false, not_false_eq_true, and_self, mk0, mr0, mr1, mr2, mrc, ck0, cr0, cr1, cr2, cr3, c6, hca, hcb]
  have heq : ∀ P : (Nat → Nat) → Prop, P (if pcmd σ c (σ (62 * c + 1)) = 6 then pback σ c (parg σ c (σ (62 * c + 1)))
  else if pcmd σ c (σ (62 * c + 1)) = 0 then su (su σ (62 * c + 1) (σ (62 * c + 1) + 1)) (62 * c + 2) ((σ (62 * c + 2) + parg σ c (σ (62 * c + 1))) % 1000)
  else if pcmd σ c (σ (62 * c + 1)) = 1 then precv (su σ (62 * c + 1) (σ (62 * c + 1) + 1)) (parg σ c (σ (62 * c + 1))) (σ (62 * c + 2))
  else if pcmd σ c (σ (62 * c + 1)) = 2 then ptake (su σ (62 * c + 1) (σ (62 * c + 1) + 1)) c
  else if pcmd σ c (σ (62 * c + 1)) = 3 then su (su σ (62 * c + 1) (σ (62 * c + 1) + 1)) (497 + parg σ c (σ (62 * c + 1))) (c + 1)
  else if pcmd σ c (σ (62 * c + 1)) = 4 then su (su σ (62 * c + 1) (σ (62 * c + 1) + 1)) (497 + parg σ c (σ (62 * c + 1))) (if σ (497 + parg σ c (σ (62 * c + 1))) = c + 1 then 0 else σ (497 + parg σ c (σ (62 * c + 1))))
  else su (su σ (62 * c + 1) (σ (62 * c + 1) + 1)) (62 * c + 9) (parg σ c (σ (62 * c + 1)))) → P (pruns σ c) := fun P h => h
  have h0 : ∀ Q : Option Value → xSh → xV → Prop, xC E mX2_runNextOf [.ref mb, .int (nI c)] S V Q ↔ xX E mX2_runNextOf 0 [some (.ref mb), some (.int (nI c)), none, none, none] [] S V Q := fun _ => Iff.rfl
  suffices h : ∃ V', kN V' mb (pruns σ c) ∧ V' mb 3 = V mb 3 ∧ kOut V V' mb ∧ ∀ Q : Option Value → xSh → xV → Prop, xX E mX2_runNextOf 28 [some (.ref mb), some (.int (nI c)), some (.ref (mb + (4 + 5 * c))), some (.int (nI (pcmd σ c (σ (62 * c + 1))))), some (.int (nI (parg σ c (σ (62 * c + 1)))))] [] S V Q ↔ Q none S V' by
    obtain ⟨V', a1, a2, a3, a4⟩ := h
    exact ⟨V', a1, a2, a3, fun Q => by rw [h0, head]; exact a4 Q⟩
  refine heq (fun τ => ∃ V', kN V' mb τ ∧ V' mb 3 = V mb 3 ∧ kOut V V' mb ∧ ∀ Q : Option Value → xSh → xV → Prop, xX E mX2_runNextOf 28 [some (.ref mb), some (.int (nI c)), some (.ref (mb + (4 + 5 * c))), some (.int (nI (pcmd σ c (σ (62 * c + 1))))), some (.int (nI (parg σ c (σ (62 * c + 1)))))] [] S V Q ↔ Q none S V') ?_
  generalize hk : pcmd σ c (σ (62 * c + 1)) = k at hok hr ht ⊢
  generalize hn : parg σ c (σ (62 * c + 1)) = n at hok hr ⊢
  have hput : xup V (mb + (4 + 5 * c)) 6 (nI (σ (62 * c + 1) + 1)) mb 3 = V mb 3 := by rw [xup_ne (by omega)]
  have hputo : kOut V (xup V (mb + (4 + 5 * c)) 6 (nI (σ (62 * c + 1) + 1))) mb := kOut_up (by omega)
  rcases hok with ⟨rfl, hq⟩ | ⟨rfl, hq⟩ | ⟨rfl, rfl⟩ | ⟨rfl, hq⟩ | ⟨rfl, hq⟩ | ⟨rfl, hq⟩ | ⟨rfl, hq, hq2⟩
  · rw [if_neg (by decide), if_pos rfl]
    have hKc1 := hk1.1 c hc
    have es : su σ (62 * c + 1) (σ (62 * c + 1) + 1) (62 * c + 2) = σ (62 * c + 2) := su_ne (by omega)
    have hadd := fun (Q : Option Value → xSh → xV → Prop) => k_addToSum (E := E) (Q := Q) (n := n) hcs0 hKc1 (by rw [es]; omega) (by omega)
    rw [es] at hadd
    refine ⟨_, kN_c hk1 (hwA _ hA1) hc (cOut_up (by omega)) (fun i hi => su_ne (by omega)) (kC_plain (j := 7) (w := 2) hKc1 (by omega) (hwA _ hA1 c hc).1) (su_ne (by omega)) (su_ne (by omega)), by rw [xup_ne (by omega)]; exact hput, kOut_t hputo (kOut_up (by omega)), fun Q => ?_⟩
    simp (disch := (first | assumption | exact xnl_i _ | exact xnl_r _ | exact xnl_n | exact Bool.toNat_lt _ | exact hb _ | exact hb2 _ | omega | exact Nat.le_of_ble_eq_true rfl | rfl | decide)) only [pX2_runNextOf_28, pX2_runNextOf_29, pX2_runNextOf_31, pX2_runNextOf_34, pX2_runNextOf_35, pX2_runNextOf_37, pX2_runNextOf_40, pX2_runNextOf_41, pX2_runNextOf_42, pX2_runNextOf_42i, pX2_runNextOf_43, pX2_runNextOf_46, pX2_runNextOf_47, pX2_runNextOf_48, pX2_runNextOf_51, pX2_runNextOf_52_k0, pX2_runNextOf_52_k1, pX2_runNextOf_52_k2, pX2_runNextOf_52_k3, pX2_runNextOf_52_k4, pX2_runNextOf_52_k5, pX2_runNextOf_52_d, pX2_runNextOf_92, pX2_runNextOf_93, pX2_runNextOf_95, pX2_runNextOf_98, pX2_runNextOf_101, pX2_runNextOf_102, pX2_runNextOf_105, pX2_runNextOf_107, pX2_runNextOf_108, pX2_runNextOf_109, pX2_runNextOf_112, pX2_runNextOf_115, pX2_runNextOf_118, pX2_runNextOf_119, pX2_runNextOf_122, pX2_runNextOf_125, pX2_runNextOf_126, pX2_runNextOf_129, pX2_runNextOf_131, pX2_runNextOf_132, pX2_runNextOf_133, pX2_runNextOf_136, pX2_runNextOf_137, pX2_runNextOf_138, pX2_runNextOf_140, pX2_runNextOf_143, pX2_runNextOf_146, pX2_runNextOf_147, pX2_runNextOf_149, pX2_runNextOf_152, pX2_runNextOf_155, nI_add, pk_mul, xn_sub, xn_and, xn_or, xn_xor, xn_shl, xn_shr, xn_lt, xn_le, xn_eq, xrf_some, xup_eq, xup_ne, xrow_eq, xrow_ne, Option.toList_some, Option.toList_none, List.singleton_append, List.nil_append, List.cons_append, xnl_n, xnl_i, xnl_r, Nat.zero_add, Nat.add_zero, ↓reduceIte, Nat.reduceEqDiff, Nat.reduceLeDiff, Nat.reduceAdd, Nat.reduceMul, Nat.reduceLT, Nat.one_ne_zero, eq_self, not_true_eq_false, not_false_eq_true, and_self, mk0, mr0, mr1, mr2, ck0, cr0, cr1, cr2, cr3, c6, hadd]
  · rw [if_neg (by decide), if_neg (by decide), if_pos rfl]
    have hn8 : n < 8 := by omega
    obtain ⟨mrn, hns⟩ := mcs n hn8
    have hKn1 := hk1.1 n hn8
    have nk0 := hns.1
    have h44 := hr rfl
    have hn4 := (hw n hn8).1
    have e4 : su σ (62 * c + 1) (σ (62 * c + 1) + 1) (62 * n + 4) = σ (62 * n + 4) := su_ne (by omega)
    have hrecv := fun (Q : Option Value → xSh → xV → Prop) => k_receive (E := E) (Q := Q) (n := σ (62 * c + 2)) hns hKn1 (by rw [e4]; omega)
    have hkr := kC_recv (n := σ (62 * c + 2)) hKn1 (by rw [e4]; omega)
    have c7' : xup V (mb + (4 + 5 * c)) 6 (nI (σ (62 * c + 1) + 1)) (mb + (4 + 5 * c)) 7 = nI (σ (62 * c + 2)) := by rw [xup_ne (by omega)]; exact c7
    have hpo : ∀ i, ¬ i = 62 * n + 4 → ¬ i = 62 * n + (5 + σ (62 * n + 4)) → precv (su σ (62 * c + 1) (σ (62 * c + 1) + 1)) n (σ (62 * c + 2)) i = su σ (62 * c + 1) (σ (62 * c + 1) + 1) i := fun i h1 h2 => by
      unfold precv; rw [su_ne h1, e4, su_ne h2]
    refine ⟨_, kN_c hk1 (hwA _ hA1) hn8 (cOut_t (cOut_up (by omega)) (cOut_up (by omega))) (fun i hi => hpo i (by omega) (by omega)) hkr (hpo _ (by omega) (by omega)) (hpo _ (by omega) (by omega)), ?_, kOut_t hputo (kOut_t (kOut_up (by omega)) (kOut_up (by omega))), fun Q => ?_⟩
    · rw [xup_ne (by omega), xup_ne (by omega)]; exact hput
    · simp (disch := (first | assumption | exact xnl_i _ | exact xnl_r _ | exact xnl_n | exact Bool.toNat_lt _ | exact hb _ | exact hb2 _ | omega | exact Nat.le_of_ble_eq_true rfl | rfl | decide)) only [pX2_runNextOf_28, pX2_runNextOf_29, pX2_runNextOf_31, pX2_runNextOf_34, pX2_runNextOf_35, pX2_runNextOf_37, pX2_runNextOf_40, pX2_runNextOf_41, pX2_runNextOf_42, pX2_runNextOf_42i, pX2_runNextOf_43, pX2_runNextOf_46, pX2_runNextOf_47, pX2_runNextOf_48, pX2_runNextOf_51, pX2_runNextOf_52_k0, pX2_runNextOf_52_k1, pX2_runNextOf_52_k2, pX2_runNextOf_52_k3, pX2_runNextOf_52_k4, pX2_runNextOf_52_k5, pX2_runNextOf_52_d, pX2_runNextOf_92, pX2_runNextOf_93, pX2_runNextOf_95, pX2_runNextOf_98, pX2_runNextOf_101, pX2_runNextOf_102, pX2_runNextOf_105, pX2_runNextOf_107, pX2_runNextOf_108, pX2_runNextOf_109, pX2_runNextOf_112, pX2_runNextOf_115, pX2_runNextOf_118, pX2_runNextOf_119, pX2_runNextOf_122, pX2_runNextOf_125, pX2_runNextOf_126, pX2_runNextOf_129, pX2_runNextOf_131, pX2_runNextOf_132, pX2_runNextOf_133, pX2_runNextOf_136, pX2_runNextOf_137, pX2_runNextOf_138, pX2_runNextOf_140, pX2_runNextOf_143, pX2_runNextOf_146, pX2_runNextOf_147, pX2_runNextOf_149, pX2_runNextOf_152, pX2_runNextOf_155, nI_add, pk_mul, xn_and, xn_or, xn_xor, xn_shl, xn_shr, xn_lt, xn_le, xn_eq, xrf_some, xup_eq, xup_ne, xrow_eq, xrow_ne, Option.toList_some, Option.toList_none, List.singleton_append, List.nil_append, List.cons_append, xnl_n, xnl_i, xnl_r, Nat.zero_add, Nat.add_zero, ↓reduceIte, Nat.reduceEqDiff, Nat.reduceLeDiff, Nat.reduceAdd, Nat.reduceMul, Nat.reduceLT, Nat.one_ne_zero, eq_self, not_true_eq_false, not_false_eq_true, and_self, mk0, mr0, mr1, mr2, ck0, cr0, cr1, cr2, cr3, c6, c7, c7', mrn, hrecv]
  · rw [if_neg (by decide), if_neg (by decide), if_neg (by decide), if_pos rfl]
    have ht := ht rfl
    have hKc1 := hk1.1 c hc
    have es : ∀ j, ¬ j = 1 → su σ (62 * c + 1) (σ (62 * c + 1) + 1) (62 * c + j) = σ (62 * c + j) := fun j hj => su_ne (by omega)
    have hm5 := w6 0 (by decide)
    obtain ⟨V', q1, q2, q3⟩ := k_takeMessage (E := E) hcs0 hKc1 (by rw [es 4 (by decide)]; exact w5) (by rw [es 4 (by decide)]; exact ht) (by rw [es 2 (by decide)]; exact w3) (by rw [es 5 (by decide)]; exact hm5)
    have hto : ∀ i, (i < 62 * c + 2 ∨ 62 * c + 8 < i) → ptake (su σ (62 * c + 1) (σ (62 * c + 1) + 1)) c i = su σ (62 * c + 1) (σ (62 * c + 1) + 1) i := fun i hi => by
      unfold ptake
      rw [su_ne (by omega), su_ne (by omega), su_ne (by omega), su_ne (by omega), su_ne (by omega), su_ne (by omega)]
    refine ⟨V', kN_c hk1 (hwA _ hA1) hc q2 (fun i hi => by rw [hto i (by omega)]) q1 (hto _ (by omega)) (hto _ (by omega)), ?_, kOut_t hputo (kOut_c hc q2), fun Q => ?_⟩
    · rw [q2 mb (by omega)]; exact hput
    · simp (disch := (first | assumption | exact xnl_i _ | exact xnl_r _ | exact xnl_n | exact Bool.toNat_lt _ | exact hb _ | exact hb2 _ | omega | exact Nat.le_of_ble_eq_true rfl | rfl | decide)) only [pX2_runNextOf_28, pX2_runNextOf_29, pX2_runNextOf_31, pX2_runNextOf_34, pX2_runNextOf_35, pX2_runNextOf_37, pX2_runNextOf_40, pX2_runNextOf_41, pX2_runNextOf_42, pX2_runNextOf_42i, pX2_runNextOf_43, pX2_runNextOf_46, pX2_runNextOf_47, pX2_runNextOf_48, pX2_runNextOf_51, pX2_runNextOf_52_k0, pX2_runNextOf_52_k1, pX2_runNextOf_52_k2, pX2_runNextOf_52_k3, pX2_runNextOf_52_k4, pX2_runNextOf_52_k5, pX2_runNextOf_52_d, pX2_runNextOf_92, pX2_runNextOf_93, pX2_runNextOf_95, pX2_runNextOf_98, pX2_runNextOf_101, pX2_runNextOf_102, pX2_runNextOf_105, pX2_runNextOf_107, pX2_runNextOf_108, pX2_runNextOf_109, pX2_runNextOf_112, pX2_runNextOf_115, pX2_runNextOf_118, pX2_runNextOf_119, pX2_runNextOf_122, pX2_runNextOf_125, pX2_runNextOf_126, pX2_runNextOf_129, pX2_runNextOf_131, pX2_runNextOf_132, pX2_runNextOf_133, pX2_runNextOf_136, pX2_runNextOf_137, pX2_runNextOf_138, pX2_runNextOf_140, pX2_runNextOf_143, pX2_runNextOf_146, pX2_runNextOf_147, pX2_runNextOf_149, pX2_runNextOf_152, pX2_runNextOf_155, nI_add, pk_mul, xn_sub, xn_and, xn_or, xn_xor, xn_shl, xn_shr, xn_lt, xn_le, xn_eq, xrf_some, xup_eq, xup_ne, xrow_eq, xrow_ne, Option.toList_some, Option.toList_none, List.singleton_append, List.nil_append, List.cons_append, xnl_n, xnl_i, xnl_r, Nat.zero_add, Nat.add_zero, ↓reduceIte, Nat.reduceEqDiff, Nat.reduceLeDiff, Nat.reduceAdd, Nat.reduceMul, Nat.reduceLT, Nat.one_ne_zero, eq_self, not_true_eq_false, not_false_eq_true, and_self, mk0, mr0, mr1, mr2, ck0, cr0, cr1, cr2, cr3, c6, q3]
  · rw [if_neg (by decide), if_neg (by decide), if_neg (by decide), if_neg (by decide), if_pos rfl]
    have e1 : hI (c + 1) = nI c := by rw [hI_s (by omega)]; rfl
    have hkh := kN_h (k := n) (v := c + 1) hk1 (hwA _ hA1) (by omega)
    rw [e1] at hkh
    refine ⟨_, hkh, by rw [xup_ne (by omega)]; exact hput, kOut_t hputo (kOut_up (by omega)), fun Q => ?_⟩
    simp (disch := (first | assumption | exact xnl_i _ | exact xnl_r _ | exact xnl_n | exact Bool.toNat_lt _ | exact hb _ | exact hb2 _ | omega | exact Nat.le_of_ble_eq_true rfl | rfl | decide)) only [pX2_runNextOf_28, pX2_runNextOf_29, pX2_runNextOf_31, pX2_runNextOf_34, pX2_runNextOf_35, pX2_runNextOf_37, pX2_runNextOf_40, pX2_runNextOf_41, pX2_runNextOf_42, pX2_runNextOf_42i, pX2_runNextOf_43, pX2_runNextOf_46, pX2_runNextOf_47, pX2_runNextOf_48, pX2_runNextOf_51, pX2_runNextOf_52_k0, pX2_runNextOf_52_k1, pX2_runNextOf_52_k2, pX2_runNextOf_52_k3, pX2_runNextOf_52_k4, pX2_runNextOf_52_k5, pX2_runNextOf_52_d, pX2_runNextOf_92, pX2_runNextOf_93, pX2_runNextOf_95, pX2_runNextOf_98, pX2_runNextOf_101, pX2_runNextOf_102, pX2_runNextOf_105, pX2_runNextOf_107, pX2_runNextOf_108, pX2_runNextOf_109, pX2_runNextOf_112, pX2_runNextOf_115, pX2_runNextOf_118, pX2_runNextOf_119, pX2_runNextOf_122, pX2_runNextOf_125, pX2_runNextOf_126, pX2_runNextOf_129, pX2_runNextOf_131, pX2_runNextOf_132, pX2_runNextOf_133, pX2_runNextOf_136, pX2_runNextOf_137, pX2_runNextOf_138, pX2_runNextOf_140, pX2_runNextOf_143, pX2_runNextOf_146, pX2_runNextOf_147, pX2_runNextOf_149, pX2_runNextOf_152, pX2_runNextOf_155, nI_add, pk_mul, xn_sub, xn_and, xn_or, xn_xor, xn_shl, xn_shr, xn_lt, xn_le, xn_eq, xrf_some, xup_eq, xup_ne, xrow_eq, xrow_ne, Option.toList_some, Option.toList_none, List.singleton_append, List.nil_append, List.cons_append, xnl_n, xnl_i, xnl_r, Nat.zero_add, Nat.add_zero, ↓reduceIte, Nat.reduceEqDiff, Nat.reduceLeDiff, Nat.reduceAdd, Nat.reduceMul, Nat.reduceLT, Nat.one_ne_zero, eq_self, not_true_eq_false, not_false_eq_true, and_self, mk0, mr0, mr1, mr2, ck0, cr0, cr1, cr2, cr3, c6]
  · rw [if_neg (by decide), if_neg (by decide), if_neg (by decide), if_neg (by decide), if_neg (by decide), if_pos rfl]
    have hhn := hk1.2.1 n (by omega)
    have eh : su σ (62 * c + 1) (σ (62 * c + 1) + 1) (497 + n) = σ (497 + n) := su_ne (by omega)
    rw [eh] at hhn
    have hh8 := hA.2.2.2 n (by omega)
    have heq : hI (σ (497 + n)) = nI c ↔ σ (497 + n) = c + 1 := by
      by_cases hz : σ (497 + n) = 0
      · rw [hz, hI_0]
        have := xn_ne6 hc
        constructor
        · intro z; exact absurd z.symm this
        · intro z; omega
      · rw [hI_s hz, xn_eq (by omega) (by omega)]; omega
    by_cases h : σ (497 + n) = c + 1
    · have h1 := heq.mpr h
      have hkh := kN_h (k := n) (v := 0) hk1 (hwA _ hA1) (by omega)
      rw [hI_0] at hkh
      rw [if_pos h]
      have hfree : ∀ Q : Option Value → xSh → xV → Prop, xC E mX2_freeIfHeldBy [.ref mb, .int (nI c), .int (nI n)] S (xup V (mb + (4 + 5 * c)) 6 (nI (σ (62 * c + 1) + 1))) Q ↔ Q none S (xup (xup V (mb + (4 + 5 * c)) 6 (nI (σ (62 * c + 1) + 1))) (mb + 2) n (-6)) := by
        intro Q
        show xX E mX2_freeIfHeldBy 0 [some (.ref mb), some (.int (nI c)), some (.int (nI n))] [] S _ Q ↔ _
        rw [h1] at hhn
        simp (disch := (first | assumption | exact xnl_i _ | exact xnl_r _ | exact xnl_n | exact Bool.toNat_lt _ | exact hb _ | exact hb2 _ | omega | exact Nat.le_of_ble_eq_true rfl | rfl | decide)) only [pX2_freeIfHeldBy_0, pX2_freeIfHeldBy_1, pX2_freeIfHeldBy_4, pX2_freeIfHeldBy_5, pX2_freeIfHeldBy_6, pX2_freeIfHeldBy_7, pX2_freeIfHeldBy_10, pX2_freeIfHeldBy_11, pX2_freeIfHeldBy_14, pX2_freeIfHeldBy_15, pX2_freeIfHeldBy_17, pX2_freeIfHeldBy_18, mk0, mr0, mr1, mr2, va_rf, hhn, not_true_eq_false, if_false]
      refine ⟨_, hkh, by rw [xup_ne (by omega)]; exact hput, kOut_t hputo (kOut_up (by omega)), fun Q => ?_⟩
      simp (disch := (first | assumption | exact xnl_i _ | exact xnl_r _ | exact xnl_n | exact Bool.toNat_lt _ | exact hb _ | exact hb2 _ | omega | exact Nat.le_of_ble_eq_true rfl | rfl | decide)) only [pX2_runNextOf_28, pX2_runNextOf_29, pX2_runNextOf_31, pX2_runNextOf_34, pX2_runNextOf_35, pX2_runNextOf_37, pX2_runNextOf_40, pX2_runNextOf_41, pX2_runNextOf_42, pX2_runNextOf_42i, pX2_runNextOf_43, pX2_runNextOf_46, pX2_runNextOf_47, pX2_runNextOf_48, pX2_runNextOf_51, pX2_runNextOf_52_k0, pX2_runNextOf_52_k1, pX2_runNextOf_52_k2, pX2_runNextOf_52_k3, pX2_runNextOf_52_k4, pX2_runNextOf_52_k5, pX2_runNextOf_52_d, pX2_runNextOf_92, pX2_runNextOf_93, pX2_runNextOf_95, pX2_runNextOf_98, pX2_runNextOf_101, pX2_runNextOf_102, pX2_runNextOf_105, pX2_runNextOf_107, pX2_runNextOf_108, pX2_runNextOf_109, pX2_runNextOf_112, pX2_runNextOf_115, pX2_runNextOf_118, pX2_runNextOf_119, pX2_runNextOf_122, pX2_runNextOf_125, pX2_runNextOf_126, pX2_runNextOf_129, pX2_runNextOf_131, pX2_runNextOf_132, pX2_runNextOf_133, pX2_runNextOf_136, pX2_runNextOf_137, pX2_runNextOf_138, pX2_runNextOf_140, pX2_runNextOf_143, pX2_runNextOf_146, pX2_runNextOf_147, pX2_runNextOf_149, pX2_runNextOf_152, pX2_runNextOf_155, nI_add, pk_mul, xn_sub, xn_and, xn_or, xn_xor, xn_shl, xn_shr, xn_lt, xn_le, xn_eq, xrf_some, xup_eq, xup_ne, xrow_eq, xrow_ne, Option.toList_some, Option.toList_none, List.singleton_append, List.nil_append, List.cons_append, xnl_n, xnl_i, xnl_r, Nat.zero_add, Nat.add_zero, ↓reduceIte, Nat.reduceEqDiff, Nat.reduceLeDiff, Nat.reduceAdd, Nat.reduceMul, Nat.reduceLT, Nat.one_ne_zero, eq_self, not_true_eq_false, not_false_eq_true, and_self, mk0, mr0, mr1, mr2, ck0, cr0, cr1, cr2, cr3, c6, hfree]
    · have h1 : ¬ hI (σ (497 + n)) = nI c := fun z => h (heq.mp z)
      rw [if_neg h]
      have hsame : su (su σ (62 * c + 1) (σ (62 * c + 1) + 1)) (497 + n) (σ (497 + n)) = su σ (62 * c + 1) (σ (62 * c + 1) + 1) := by
        have := su_same (σ := su σ (62 * c + 1) (σ (62 * c + 1) + 1)) (i := 497 + n)
        rw [eh] at this; exact this
      rw [hsame]
      have hfree : ∀ Q : Option Value → xSh → xV → Prop, xC E mX2_freeIfHeldBy [.ref mb, .int (nI c), .int (nI n)] S (xup V (mb + (4 + 5 * c)) 6 (nI (σ (62 * c + 1) + 1))) Q ↔ Q none S (xup V (mb + (4 + 5 * c)) 6 (nI (σ (62 * c + 1) + 1))) := by
        intro Q
        show xX E mX2_freeIfHeldBy 0 [some (.ref mb), some (.int (nI c)), some (.int (nI n))] [] S _ Q ↔ _
        simp (disch := (first | assumption | exact xnl_i _ | exact xnl_r _ | exact xnl_n | exact Bool.toNat_lt _ | exact hb _ | exact hb2 _ | omega | exact Nat.le_of_ble_eq_true rfl | rfl | decide)) only [pX2_freeIfHeldBy_0, pX2_freeIfHeldBy_1, pX2_freeIfHeldBy_4, pX2_freeIfHeldBy_5, pX2_freeIfHeldBy_6, pX2_freeIfHeldBy_7, pX2_freeIfHeldBy_10, pX2_freeIfHeldBy_11, pX2_freeIfHeldBy_14, pX2_freeIfHeldBy_15, pX2_freeIfHeldBy_17, pX2_freeIfHeldBy_18, mk0, mr0, mr1, mr2, va_rf, hhn, h1, not_false_eq_true, if_true]
      refine ⟨_, hk1, hput, hputo, fun Q => ?_⟩
      simp (disch := (first | assumption | exact xnl_i _ | exact xnl_r _ | exact xnl_n | exact Bool.toNat_lt _ | exact hb _ | exact hb2 _ | omega | exact Nat.le_of_ble_eq_true rfl | rfl | decide)) only [pX2_runNextOf_28, pX2_runNextOf_29, pX2_runNextOf_31, pX2_runNextOf_34, pX2_runNextOf_35, pX2_runNextOf_37, pX2_runNextOf_40, pX2_runNextOf_41, pX2_runNextOf_42, pX2_runNextOf_42i, pX2_runNextOf_43, pX2_runNextOf_46, pX2_runNextOf_47, pX2_runNextOf_48, pX2_runNextOf_51, pX2_runNextOf_52_k0, pX2_runNextOf_52_k1, pX2_runNextOf_52_k2, pX2_runNextOf_52_k3, pX2_runNextOf_52_k4, pX2_runNextOf_52_k5, pX2_runNextOf_52_d, pX2_runNextOf_92, pX2_runNextOf_93, pX2_runNextOf_95, pX2_runNextOf_98, pX2_runNextOf_101, pX2_runNextOf_102, pX2_runNextOf_105, pX2_runNextOf_107, pX2_runNextOf_108, pX2_runNextOf_109, pX2_runNextOf_112, pX2_runNextOf_115, pX2_runNextOf_118, pX2_runNextOf_119, pX2_runNextOf_122, pX2_runNextOf_125, pX2_runNextOf_126, pX2_runNextOf_129, pX2_runNextOf_131, pX2_runNextOf_132, pX2_runNextOf_133, pX2_runNextOf_136, pX2_runNextOf_137, pX2_runNextOf_138, pX2_runNextOf_140, pX2_runNextOf_143, pX2_runNextOf_146, pX2_runNextOf_147, pX2_runNextOf_149, pX2_runNextOf_152, pX2_runNextOf_155, nI_add, pk_mul, xn_sub, xn_and, xn_or, xn_xor, xn_shl, xn_shr, xn_lt, xn_le, xn_eq, xrf_some, xup_eq, xup_ne, xrow_eq, xrow_ne, Option.toList_some, Option.toList_none, List.singleton_append, List.nil_append, List.cons_append, xnl_n, xnl_i, xnl_r, Nat.zero_add, Nat.add_zero, ↓reduceIte, Nat.reduceEqDiff, Nat.reduceLeDiff, Nat.reduceAdd, Nat.reduceMul, Nat.reduceLT, Nat.one_ne_zero, eq_self, not_true_eq_false, not_false_eq_true, and_self, mk0, mr0, mr1, mr2, ck0, cr0, cr1, cr2, cr3, c6, hfree]
  · rw [if_neg (by decide), if_neg (by decide), if_neg (by decide), if_neg (by decide), if_neg (by decide), if_neg (by decide)]
    have hKc1 := hk1.1 c hc
    refine ⟨_, kN_c hk1 (hwA _ hA1) hc (cOut_up (by omega)) (fun i hi => su_ne (by omega)) (kC_plain (j := 10) (w := 9) hKc1 (by omega) (hwA _ hA1 c hc).1) (su_ne (by omega)) (su_ne (by omega)), by rw [xup_ne (by omega)]; exact hput, kOut_t hputo (kOut_up (by omega)), fun Q => ?_⟩
    simp (disch := (first | assumption | exact xnl_i _ | exact xnl_r _ | exact xnl_n | exact Bool.toNat_lt _ | exact hb _ | exact hb2 _ | omega | exact Nat.le_of_ble_eq_true rfl | rfl | decide)) only [pX2_runNextOf_28, pX2_runNextOf_29, pX2_runNextOf_31, pX2_runNextOf_34, pX2_runNextOf_35, pX2_runNextOf_37, pX2_runNextOf_40, pX2_runNextOf_41, pX2_runNextOf_42, pX2_runNextOf_42i, pX2_runNextOf_43, pX2_runNextOf_46, pX2_runNextOf_47, pX2_runNextOf_48, pX2_runNextOf_51, pX2_runNextOf_52_k0, pX2_runNextOf_52_k1, pX2_runNextOf_52_k2, pX2_runNextOf_52_k3, pX2_runNextOf_52_k4, pX2_runNextOf_52_k5, pX2_runNextOf_52_d, pX2_runNextOf_92, pX2_runNextOf_93, pX2_runNextOf_95, pX2_runNextOf_98, pX2_runNextOf_101, pX2_runNextOf_102, pX2_runNextOf_105, pX2_runNextOf_107, pX2_runNextOf_108, pX2_runNextOf_109, pX2_runNextOf_112, pX2_runNextOf_115, pX2_runNextOf_118, pX2_runNextOf_119, pX2_runNextOf_122, pX2_runNextOf_125, pX2_runNextOf_126, pX2_runNextOf_129, pX2_runNextOf_131, pX2_runNextOf_132, pX2_runNextOf_133, pX2_runNextOf_136, pX2_runNextOf_137, pX2_runNextOf_138, pX2_runNextOf_140, pX2_runNextOf_143, pX2_runNextOf_146, pX2_runNextOf_147, pX2_runNextOf_149, pX2_runNextOf_152, pX2_runNextOf_155, nI_add, pk_mul, xn_sub, xn_and, xn_or, xn_xor, xn_shl, xn_shr, xn_lt, xn_le, xn_eq, xrf_some, xup_eq, xup_ne, xrow_eq, xrow_ne, Option.toList_some, Option.toList_none, List.singleton_append, List.nil_append, List.cons_append, xnl_n, xnl_i, xnl_r, Nat.zero_add, Nat.add_zero, ↓reduceIte, Nat.reduceEqDiff, Nat.reduceLeDiff, Nat.reduceAdd, Nat.reduceMul, Nat.reduceLT, Nat.one_ne_zero, eq_self, not_true_eq_false, not_false_eq_true, and_self, mk0, mr0, mr1, mr2, ck0, cr0, cr1, cr2, cr3, c6]
  · rw [if_pos rfl]
    obtain ⟨V', q1, q2, q3⟩ := k_goBack (E := E) (n := n) hcs0 hKc w5 hpl w1 hmk (by omega)
    have hbo : ∀ i, (i < 62 * c + 1 ∨ (62 * c + 1 < i ∧ i < 62 * c + 14) ∨ 62 * c + 62 ≤ i) → pback σ c n i = σ i := fun i hi => by
      unfold pback; split <;> rw [su_ne (by omega), su_ne (by omega)]
    refine ⟨V', kN_c hK hw hc q2 (fun i hi => hbo i (by omega)) q1 (hbo _ (by omega)) (hbo _ (by omega)), by rw [q2 mb (by omega)], kOut_c hc q2, fun Q => ?_⟩
    simp (disch := (first | assumption | exact xnl_i _ | exact xnl_r _ | exact xnl_n | exact Bool.toNat_lt _ | exact hb _ | exact hb2 _ | omega | exact Nat.le_of_ble_eq_true rfl | rfl | decide)) only [pX2_runNextOf_28, pX2_runNextOf_29, pX2_runNextOf_31, pX2_runNextOf_34, pX2_runNextOf_35, pX2_runNextOf_37, pX2_runNextOf_40, nI_add, pk_mul, xn_sub, xn_and, xn_or, xn_xor, xn_shl, xn_shr, xn_lt, xn_le, xn_eq, xrf_some, xup_eq, xup_ne, xrow_eq, xrow_ne, Option.toList_some, Option.toList_none, List.singleton_append, List.nil_append, List.cons_append, xnl_n, xnl_i, xnl_r, Nat.zero_add, Nat.add_zero, ↓reduceIte, Nat.reduceEqDiff, Nat.reduceLeDiff, Nat.reduceAdd, Nat.reduceMul, Nat.reduceLT, Nat.one_ne_zero, eq_self, not_true_eq_false, not_false_eq_true, and_self, mk0, mr0, mr1, mr2, ck0, cr0, cr1, cr2, cr3, q3]
theorem k_slot {n : Nat} (hS : kShape S mb) (hK : kM V mb σ) (hg : gs σ n) (hn : n < 200000) : ∃ V', kM V' mb (pslot σ) ∧ kOut V V' mb ∧ ∀ Q : Option Value → xSh → xV → Prop, xC E mX2_passSlot [.ref mb] S V Q ↔ Q (some (.int (rv (pslotR σ)))) S V' := by
  have hS' := hS
  obtain ⟨mk0, mr0, mr1, mr2, mk1, mn1, mk2, mn2, mk3, mn3, mcs⟩ := hS'
  obtain ⟨hN, h3⟩ := hK
  have hA := hg.1
  have hwA : ∀ τ N, wfA τ N → ∀ d, d < 8 → τ (62 * d + 4) ≤ 4 ∧ τ (62 * d) ≤ 16 := fun τ N hA d hd => ⟨(hA.2.2.1 d hd).2.2.2.2.1, (hA.2.2.1 d hd).1⟩
  have ho : σ 496 % 8 < 8 := Nat.mod_lt _ (by decide)
  have h496 : σ 496 < 200000 := by have := hg.2; omega
  have hb : ∀ i, σ i < 2147483648 := fun i => Nat.lt_of_le_of_lt (hA.1 i) (by decide)
  -- the sleepers
  obtain ⟨V1, hV1⟩ : ∃ V1, V1 = xup V mb 3 (nI (σ 496 + 1)) := ⟨_, rfl⟩
  have hN1 : kN V1 mb σ := by
    obtain ⟨a1, a2, a3, a4⟩ := hN
    rw [hV1]
    exact ⟨fun c hc => kC_o (a1 c hc) (fun a h1 h2 => xup_rn (by omega)), fun k hk => by rw [xup_ne (by omega)]; exact a2 k hk, by rw [xup_ne (by omega)]; exact a3, by rw [xup_ne (by omega)]; exact a4⟩
  have h31 : V1 mb 3 = nI (σ 496 + 1) := by rw [hV1, xup_eq]
  have ho1 : kOut V V1 mb := by rw [hV1]; exact kOut_up (by omega)
  have loop : ∀ k i τ W, i + k = 8 → wfA τ (σ 496) → τ = itN (fun c τ => su τ (62 * c + 9) (τ (62 * c + 9) - 1)) i σ → kN W mb τ → W mb 3 = V1 mb 3 → kOut V W mb → ∃ W', kN W' mb (pwakes σ) ∧ W' mb 3 = V1 mb 3 ∧ kOut V W' mb ∧ ∀ Q : Option Value → xSh → xV → Prop, xX E mX2_passSlot 20 [some (.ref mb), some (.int (nI (σ 496 % 8))), some (.int (nI i))] [] S W Q ↔ xX E mX2_passSlot 56 [some (.ref mb), some (.int (nI (σ 496 % 8))), some (.int (nI 8))] [] S W' Q := by
    intro k
    induction k with
    | zero =>
      intro i τ W hi hAτ hτ hW hW3 hWo
      have hi : i = 8 := by omega
      subst hi
      refine ⟨W, by rw [hτ] at hW; exact hW, hW3, hWo, fun Q => ?_⟩
      simp (disch := (first | assumption | exact xnl_i _ | exact xnl_r _ | exact xnl_n | exact Bool.toNat_lt _ | exact hb _ | exact hb2 _ | omega | exact Nat.le_of_ble_eq_true rfl | rfl | decide)) only [pX2_passSlot_20, pX2_passSlot_21, pX2_passSlot_23, nI_add, pk_mul, xn_sub, xn_and, xn_or, xn_xor, xn_shl, xn_shr, xn_lt, xn_le, xn_eq, xrf_some, xup_eq, xup_ne, xrow_eq, xrow_ne, Option.toList_some, Option.toList_none, List.singleton_append, List.nil_append, List.cons_append, xnl_n, xnl_i, xnl_r, Nat.zero_add, Nat.add_zero, ↓reduceIte, Nat.reduceEqDiff, Nat.reduceLeDiff, Nat.reduceAdd, Nat.reduceMul, Nat.reduceLT, Nat.one_ne_zero, eq_self, not_true_eq_false, not_false_eq_true, and_self]
    | succ k ih =>
      intro i τ W hi hAτ hτ hW hW3 hWo
      have h8 : ¬ 8 ≤ i := by omega
      have hi8 : i < 8 := by omega
      obtain ⟨mri, his⟩ := mcs i hi8
      have ik0 := his.1
      have i10 := (hW.1 i hi8).2.2.2.2.2.2.1
      have hs99 := (hAτ.2.2.1 i hi8).2.2.2.2.2.2.1
      have hA2 : wfA (su τ (62 * i + 9) (τ (62 * i + 9) - 1)) (σ 496) := wfA_9 hAτ hi8 (by omega)
      obtain ⟨W', b1, b2, b3, b4⟩ := ih (i + 1) (su τ (62 * i + 9) (τ (62 * i + 9) - 1)) (xup W (mb + (4 + 5 * i)) 10 (nI (τ (62 * i + 9) - 1))) (by omega) hA2 (by rw [itN_s, ← hτ]) (kN_c hW (hwA _ _ hAτ) hi8 (cOut_up (by omega)) (fun j hj => su_ne (by omega)) (kC_plain (hW.1 i hi8) (by omega) (hwA _ _ hAτ i hi8).1) (su_ne (by omega)) (su_ne (by omega))) (by rw [xup_ne (by omega)]; exact hW3) (kOut_t hWo (kOut_up (by omega)))
      refine ⟨W', b1, b2, b3, fun Q => ?_⟩
      rw [← b4, pX2_passSlot_20]
      simp (disch := (first | assumption | exact xnl_i _ | exact xnl_r _ | exact xnl_n | exact Bool.toNat_lt _ | exact hb _ | exact hb2 _ | omega | exact Nat.le_of_ble_eq_true rfl | rfl | decide)) only [pX2_passSlot_21, pX2_passSlot_23, pX2_passSlot_26, pX2_passSlot_27, pX2_passSlot_30, pX2_passSlot_31, pX2_passSlot_32, pX2_passSlot_33, pX2_passSlot_34, pX2_passSlot_37, pX2_passSlot_38, pX2_passSlot_39, pX2_passSlot_42, pX2_passSlot_43, pX2_passSlot_44, pX2_passSlot_47, pX2_passSlot_50, pX2_passSlot_53, nI_add, pk_mul, xn_and, xn_or, xn_xor, xn_shl, xn_shr, xn_lt, xn_le, xn_eq, xrf_some, xup_eq, xup_ne, xrow_eq, xrow_ne, Option.toList_some, Option.toList_none, List.singleton_append, List.nil_append, List.cons_append, xnl_n, xnl_i, xnl_r, Nat.zero_add, Nat.add_zero, ↓reduceIte, Nat.reduceEqDiff, Nat.reduceLeDiff, Nat.reduceAdd, Nat.reduceMul, Nat.reduceLT, Nat.one_ne_zero, eq_self, not_true_eq_false, not_false_eq_true, and_self, mk0, mr0, mr1, mr2, h8, mri, ik0, i10, xmax_sub]
  obtain ⟨W1, c1, c2, c3, c4⟩ := loop 8 0 σ V1 rfl hA rfl hN1 rfl ho1
  have hwk := wfA_wakes hA
  have hww := wf_wakes (gs_wf hg)
  obtain ⟨W2, d1, d2, d3⟩ := k_runner (E := E) hS c1 hww ho
  have hr8 : ∀ c, prunner (pwakes σ) (σ 496 % 8) = some c → c < 8 := fun c hc => (prunner_1 ho hc).1
  obtain ⟨W3, e1, e2, e3, e4⟩ := k_account (E := E) hS d1 hwk ho hr8
  have h33 : W3 mb 3 = nI (σ 496 + 1) := by rw [e2, d2 mb (by omega), c2, h31]
  have o3 : kOut V W3 mb := kOut_t c3 (kOut_t (fun a ha => d2 a (by omega)) e3)
  have head : ∀ Q : Option Value → xSh → xV → Prop, xC E mX2_passSlot [.ref mb] S V Q ↔ xX E mX2_passSlot 68 [some (.ref mb), some (.int (nI (σ 496 % 8))), some (.int (rv (pslotR σ)))] [] S W3 Q := by
    intro Q
    show xX E mX2_passSlot 0 [some (.ref mb), none, none] [] S V Q ↔ _
    simp (disch := (first | assumption | exact xnl_i _ | exact xnl_r _ | exact xnl_n | exact Bool.toNat_lt _ | exact hb _ | exact hb2 _ | omega | exact Nat.le_of_ble_eq_true rfl | rfl | decide)) only [pX2_passSlot_0, pX2_passSlot_1, pX2_passSlot_4, pX2_passSlot_6i, pX2_passSlot_6, pX2_passSlot_7, pX2_passSlot_8, pX2_passSlot_9, pX2_passSlot_9i, pX2_passSlot_10, pX2_passSlot_13, pX2_passSlot_14, pX2_passSlot_15, pX2_passSlot_18, pX2_passSlot_19, nI_add, pk_mul, xn_sub, xn_and, xn_or, xn_xor, xn_shl, xn_shr, xn_lt, xn_le, xn_eq, xrf_some, xup_eq, xup_ne, xrow_eq, xrow_ne, Option.toList_some, Option.toList_none, List.singleton_append, List.nil_append, List.cons_append, xnl_n, xnl_i, xnl_r, Nat.zero_add, Nat.add_zero, ↓reduceIte, Nat.reduceEqDiff, Nat.reduceLeDiff, Nat.reduceAdd, Nat.reduceMul, Nat.reduceLT, Nat.one_ne_zero, eq_self, not_true_eq_false, not_false_eq_true, and_self, mk0, mr0, mr1, mr2, h3, xn_rem]
    rw [← hV1, c4]
    simp (disch := (first | assumption | exact xnl_i _ | exact xnl_r _ | exact xnl_n | exact Bool.toNat_lt _ | exact hb _ | exact hb2 _ | omega | exact Nat.le_of_ble_eq_true rfl | rfl | decide)) only [pX2_passSlot_56, pX2_passSlot_57, pX2_passSlot_58, pX2_passSlot_61, pX2_passSlot_62, pX2_passSlot_63, pX2_passSlot_64, pX2_passSlot_65, nI_add, pk_mul, xn_sub, xn_and, xn_or, xn_xor, xn_shl, xn_shr, xn_lt, xn_le, xn_eq, xrf_some, xup_eq, xup_ne, xrow_eq, xrow_ne, Option.toList_some, Option.toList_none, List.singleton_append, List.nil_append, List.cons_append, xnl_n, xnl_i, xnl_r, Nat.zero_add, Nat.add_zero, ↓reduceIte, Nat.reduceEqDiff, Nat.reduceLeDiff, Nat.reduceAdd, Nat.reduceMul, Nat.reduceLT, Nat.one_ne_zero, eq_self, not_true_eq_false, not_false_eq_true, and_self, mk0, mr0, mr1, mr2, d3, e4]
    rfl
  have fin : ∀ (τ : Nat → Nat) (W : xV), (∀ d, d < 8 → τ (62 * d + 4) ≤ 4 ∧ τ (62 * d) ≤ 16) → kN W mb τ → W mb 3 = nI (σ 496 + 1) → kM W mb (su τ 496 (σ 496 + 1)) := fun τ W hw h h3 => by
    obtain ⟨a1, a2, a3, a4⟩ := h
    refine ⟨⟨fun c hc => kC_σ (a1 c hc) (hw c hc).1 (hw c hc).2 (fun i h1 h2 => su_ne (by omega)), fun k hk => by rw [su_ne (by omega)]; exact a2 k hk, by rw [a3]; exact congrArg nI (psum_c (fun c hc => su_ne (by omega))).symm, by rw [a4]; exact congrArg nI (psum_c (fun c hc => su_ne (by omega))).symm⟩, by rw [su_eq]; exact h3⟩
  have hAa := wfA_acct (r := prunner (pwakes σ) (σ 496 % 8)) hwk ho hr8 h496
  have hslot : pslot σ = su (match pslotR σ with | none => pacct (pwakes σ) (σ 496 % 8) none | some c => pruns (pacct (pwakes σ) (σ 496 % 8) (some c)) c) 496 (σ 496 + 1) := rfl
  rw [hslot]
  have hR : pslotR σ = prunner (pwakes σ) (σ 496 % 8) := rfl
  rw [← hR] at e1 hAa
  cases hr : pslotR σ with
  | none =>
    rw [hr] at e1 hAa head
    refine ⟨W3, fin _ W3 (hwA _ _ hAa) e1 h33, o3, fun Q => ?_⟩
    rw [head]
    simp (disch := (first | assumption | exact xnl_i _ | exact xnl_r _ | exact xnl_n | exact Bool.toNat_lt _ | exact hb _ | exact hb2 _ | omega | exact Nat.le_of_ble_eq_true rfl | rfl | decide)) only [pX2_passSlot_68, pX2_passSlot_69, pX2_passSlot_71, pX2_passSlot_74, pX2_passSlot_75, pX2_passSlot_76, pX2_passSlot_79, pX2_passSlot_80, nI_add, pk_mul, xn_sub, xn_and, xn_or, xn_xor, xn_shl, xn_shr, xn_lt, xn_le, xn_eq, xrf_some, xup_eq, xup_ne, xrow_eq, xrow_ne, Option.toList_some, Option.toList_none, List.singleton_append, List.nil_append, List.cons_append, xnl_n, xnl_i, xnl_r, Nat.zero_add, Nat.add_zero, ↓reduceIte, Nat.reduceEqDiff, Nat.reduceLeDiff, Nat.reduceAdd, Nat.reduceMul, Nat.reduceLT, Nat.one_ne_zero, eq_self, not_true_eq_false, not_false_eq_true, and_self, rv]
  | some c =>
    rw [hr] at e1 hAa head
    obtain ⟨hc, hp⟩ := prunner_1 ho (hR.symm.trans hr)
    obtain ⟨p1, p2, p3, p4, p5⟩ := pst_1 hp
    obtain ⟨w1, w2, w3, w4, w5, w6, w7, w8, w9⟩ := hwk.2.2.1 c hc
    have hrs : ∀ d, some c = some d → d < 8 := fun d hd => by cases hd; exact hc
    have eo : ∀ i, (∀ c j, c < 8 → j < 4 → ¬ i = 62 * c + (10 + j)) → pacct (pwakes σ) (σ 496 % 8) (some c) i = pwakes σ i := fun i hi => pacct_o ho hrs hi
    generalize pwakes σ = τ at p1 p2 p3 p4 p5 w1 w2 w9 eo hAa e1
    have f1 : pacct τ (σ 496 % 8) (some c) (62 * c + 1) = τ (62 * c + 1) := eo _ (fun _ _ _ _ => by omega)
    have f0 : pacct τ (σ 496 % 8) (some c) (62 * c) = τ (62 * c) := eo _ (fun _ _ _ _ => by omega)
    have f4 : pacct τ (σ 496 % 8) (some c) (62 * c + 4) = τ (62 * c + 4) := eo _ (fun _ _ _ _ => by omega)
    have hp16 : τ (62 * c + 1) < 16 := by omega
    have fc : pcmd (pacct τ (σ 496 % 8) (some c)) c (τ (62 * c + 1)) = pcmd τ c (τ (62 * c + 1)) := eo (62 * c + (14 + 3 * τ (62 * c + 1))) (fun d _ _ _ => by rcases Nat.lt_trichotomy d c with h | h | h <;> omega)
    have fa : parg (pacct τ (σ 496 % 8) (some c)) c (τ (62 * c + 1)) = parg τ c (τ (62 * c + 1)) := eo (62 * c + (14 + 3 * τ (62 * c + 1) + 1)) (fun d _ _ _ => by rcases Nat.lt_trichotomy d c with h | h | h <;> omega)
    have hpl : pacct τ (σ 496 % 8) (some c) (62 * c + 1) < pacct τ (σ 496 % 8) (some c) (62 * c) := by rw [f1, f0]; exact p1
    have hrr : pcmd (pacct τ (σ 496 % 8) (some c)) c (pacct τ (σ 496 % 8) (some c) (62 * c + 1)) = 1 → ¬ pacct τ (σ 496 % 8) (some c) (62 * parg (pacct τ (σ 496 % 8) (some c)) c (pacct τ (σ 496 % 8) (some c) (62 * c + 1)) + 4) = 4 := by
      rw [f1, fc, fa, eo _ (fun _ _ _ _ => by omega)]; exact p3
    have htt : pcmd (pacct τ (σ 496 % 8) (some c)) c (pacct τ (σ 496 % 8) (some c) (62 * c + 1)) = 2 → 0 < pacct τ (σ 496 % 8) (some c) (62 * c + 4) := by
      rw [f1, fc, f4]; exact p4
    obtain ⟨W4, g1, g2, g3, g4⟩ := k_runs (E := E) hS e1 hAa hc hpl hrr htt
    have hAr := wfA_runs hAa hc hpl hrr
    have hne : ¬ nI c = -6 := xn_ne6 hc
    refine ⟨W4, fin _ W4 (hwA _ _ hAr) g1 (g2.trans h33), kOut_t o3 g3, fun Q => ?_⟩
    rw [head]
    simp (disch := (first | assumption | exact xnl_i _ | exact xnl_r _ | exact xnl_n | exact Bool.toNat_lt _ | exact hb _ | exact hb2 _ | omega | exact Nat.le_of_ble_eq_true rfl | rfl | decide)) only [pX2_passSlot_68, pX2_passSlot_69, pX2_passSlot_71, pX2_passSlot_74, pX2_passSlot_75, pX2_passSlot_76, pX2_passSlot_79, pX2_passSlot_80, nI_add, pk_mul, xn_sub, xn_and, xn_or, xn_xor, xn_shl, xn_shr, xn_lt, xn_le, xn_eq, xrf_some, xup_eq, xup_ne, xrow_eq, xrow_ne, Option.toList_some, Option.toList_none, List.singleton_append, List.nil_append, List.cons_append, xnl_n, xnl_i, xnl_r, Nat.zero_add, Nat.add_zero, ↓reduceIte, Nat.reduceEqDiff, Nat.reduceLeDiff, Nat.reduceAdd, Nat.reduceMul, Nat.reduceLT, Nat.one_ne_zero, eq_self, not_true_eq_false, not_false_eq_true, and_self, rv, hne, g4]
end KSL

