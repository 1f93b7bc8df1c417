/-! ===== the class: its calls ===== -/
section KCA
variable {E : Nat × Nat × Nat} {S : xSh} {V V' W : xV} {Q : Option Value → xSh → xV → Prop} {x mb c : Nat} {g : pG} {σ : Nat → Nat}
theorem kM_c {τ : Nat → Nat} (h : kM V mb σ) (hw : wf σ) (hc : c < 8) (hv : cOut V V' (mb + (4 + 5 * c))) (hs : ∀ i, i < 62 * c ∨ 62 * c + 62 ≤ i → τ i = σ i) (hk : kC V' (mb + (4 + 5 * c)) τ c) (h13 : τ (62 * c + 13) = σ (62 * c + 13)) (h12 : τ (62 * c + 12) = σ (62 * c + 12)) : kM V' mb τ :=
  ⟨kN_c h.1 (fun d hd => ⟨(hw.2.1 d hd).2.2.2.2.1, (hw.2.1 d hd).1⟩) hc hv hs hk h13 h12, by rw [hv mb (by omega), hs 496 (by omega)]; exact h.2⟩
theorem tOut_rec (h : ∀ a, a < x + 89 ∨ x + 354 < a → V' a = V a) : tOut V V' x := fun a ha => h a (by omega)
theorem c_add {a b c : Int32} (hR : cRep S V x g) (hG : gG g) (hO : oRep E S V x) (hQ : ∀ V', cRep S V' x (padd g a b c).2 → tOut V V' x → Q (some (.int (padd g a b c).1)) S V') : xC E mX4_add [.ref x, .int a, .int b, .int c] S V Q := by
  have hT := hR.1; obtain ⟨tk0, tr0, tr1, tr2, tr3, tr4, tr5, tnow, ttry, hk0, hr0, hk1, hn1, hms, sk0, sn0, sms, ik0, in0, pk0, pr0, pr2, pr3, qk1, qn1, qk2, qn2, qk3, qn3⟩ := hT; have hKn := tnow; obtain ⟨mk0, mr0, mr1, mr2, mk1, mn1, mk2, mn2, mk3, mn3, mcs⟩ := hKn; have hw := gs_wf hG.1; have hb := wf_b hw; have hN := hR.2.1; have tnow0 := tnow.1
  show xX E mX4_add 0 [some (.ref x), some (.int a), some (.int b), some (.int c), none] [] S V Q
  unfold padd at hQ
  rcases xrng a 0 7 (by decide) (by decide) with ⟨d, _, hd, rfl⟩ | ⟨hn, _⟩
  · have hcc := ctx_n (show d < 8 by omega)
    rw [if_pos hcc, ix_n (by omega)] at hQ
    obtain ⟨mrd, hds⟩ := mcs d (by omega)
    have dk0 := hds.1
    have d4 := (hN.1.1 d (by omega)).1
    have hm16 := (hw.2.1 d (by omega)).1
    cases hpa : pargB b c with
    | false =>
      rw [hpa, if_neg (by decide)] at hQ
      simp (disch := (first | assumption | exact xnl_i _ | exact xnl_r _ | exact xnl_n | exact Bool.toNat_lt _ | exact hb _ | exact hb2 _ | omega | exact Nat.le_of_ble_eq_true rfl | rfl | decide)) only [pX4_add_0, pX4_add_1, pX4_add_4, pX4_add_7, pX4_add_8, pX4_add_9, pX4_add_10, pX4_add_11, pX4_add_14, pX4_add_17, pX4_add_19, nI_add, pk_mul, xn_sub, xn_and, xn_or, xn_xor, xn_shl, xn_shr, xn_lt, xn_le, xn_eq, xrf_some, xup_eq, xup_ne, xrow_eq, xrow_ne, Option.toList_some, Option.toList_none, List.singleton_append, List.nil_append, List.cons_append, xnl_n, xnl_i, xnl_r, Nat.zero_add, Nat.add_zero, ↓reduceIte, Nat.reduceEqDiff, Nat.reduceLeDiff, Nat.reduceAdd, Nat.reduceMul, Nat.reduceLT, Nat.one_ne_zero, eq_self, not_true_eq_false, not_false_eq_true, and_self, k_isContext, hcc, k_isCommand hO, hpa, Bool.toNat_false]
      exact hQ _ hR tOut_r
    | true =>
      rw [hpa, if_pos rfl] at hQ
      by_cases h16 : gσ g (62 * d) = 16
      · rw [if_pos h16] at hQ
        simp (disch := (first | assumption | exact xnl_i _ | exact xnl_r _ | exact xnl_n | exact Bool.toNat_lt _ | exact hb _ | exact hb2 _ | omega | exact Nat.le_of_ble_eq_true rfl | rfl | decide)) only [pX4_add_0, pX4_add_1, pX4_add_4, pX4_add_7, pX4_add_8, pX4_add_9, pX4_add_10, pX4_add_11, pX4_add_14, pX4_add_17, pX4_add_19, pX4_add_20, pX4_add_21, pX4_add_24, pX4_add_27, pX4_add_28, pX4_add_29, pX4_add_31, pX4_add_33, pX4_add_36, pX4_add_38, pX4_add_41, pX4_add_43, nI_add, pk_mul, xn_sub, xn_and, xn_or, xn_xor, xn_shl, xn_shr, xn_lt, xn_le, xn_eq, xrf_some, xup_eq, xup_ne, xrow_eq, xrow_ne, Option.toList_some, Option.toList_none, List.singleton_append, List.nil_append, List.cons_append, xnl_n, xnl_i, xnl_r, Nat.zero_add, Nat.add_zero, ↓reduceIte, Nat.reduceEqDiff, Nat.reduceLeDiff, Nat.reduceAdd, Nat.reduceMul, Nat.reduceLT, Nat.one_ne_zero, eq_self, not_true_eq_false, not_false_eq_true, and_self, k_isContext, hcc, k_isCommand hO, hpa, Bool.toNat_true, tk0, tr0, tr1, tr2, tr3, tr4, tr5, mk0, mr0, mr1, mr2, mrd, dk0, d4, h16]
        exact hQ _ hR tOut_r
      · rw [if_neg h16] at hQ
        have hlt : gσ g (62 * d) < 16 := by omega
        obtain ⟨W, hRW, hoW, hrec⟩ := k_record (E := E) hR hG
        have hNW := hRW.2.1
        have hNW : kM W (x + 1) (gσ g) := hNW
        have d4W := (hNW.1.1 d (by omega)).1
        unfold pargB at hpa
        rcases xrng b 0 6 (by decide) (by decide) with ⟨k, _, hk, rfl⟩ | ⟨hn, _⟩
        · rcases xrng c 0 99 (by decide) (by decide) with ⟨n, _, hn, rfl⟩ | ⟨hn, _⟩
          · rw [ix_n (by omega), ix_n (by omega)] at hQ
            have hpa2 : pargB (nI k) (nI n) = true := hpa
            have happ := fun (Q : Option Value → xSh → xV → Prop) => k_appendV (E := E) (V := W) (Q := Q) (k := k) (n := n) hds d4W hlt
            simp (disch := (first | assumption | exact xnl_i _ | exact xnl_r _ | exact xnl_n | exact Bool.toNat_lt _ | exact hb _ | exact hb2 _ | omega | exact Nat.le_of_ble_eq_true rfl | rfl | decide)) only [pX4_add_0, pX4_add_1, pX4_add_4, pX4_add_7, pX4_add_8, pX4_add_9, pX4_add_10, pX4_add_11, pX4_add_14, pX4_add_17, pX4_add_19, pX4_add_20, pX4_add_21, pX4_add_24, pX4_add_27, pX4_add_28, pX4_add_29, pX4_add_31, pX4_add_33, pX4_add_36, pX4_add_38, pX4_add_41, pX4_add_43, pX4_add_44, pX4_add_45, pX4_add_48, pX4_add_49, pX4_add_52, pX4_add_55, pX4_add_57, pX4_add_58, pX4_add_59, pX4_add_62, pX4_add_64, pX4_add_67, nI_add, pk_mul, xn_sub, xn_and, xn_or, xn_xor, xn_shl, xn_shr, xn_lt, xn_le, xn_eq, xrf_some, xup_eq, xup_ne, xrow_eq, xrow_ne, Option.toList_some, Option.toList_none, List.singleton_append, List.nil_append, List.cons_append, xnl_n, xnl_i, xnl_r, Nat.zero_add, Nat.add_zero, ↓reduceIte, Nat.reduceEqDiff, Nat.reduceLeDiff, Nat.reduceAdd, Nat.reduceMul, Nat.reduceLT, Nat.one_ne_zero, eq_self, not_true_eq_false, not_false_eq_true, and_self, k_isContext, hcc, k_isCommand hO, hpa2, Bool.toNat_true, tk0, tr0, tr1, tr2, tr3, tr4, tr5, mk0, mr0, mr1, mr2, mrd, dk0, d4, hlt, hrec, happ]
            have e0 : pappend (gσ g) d k n (62 * d) = gσ g (62 * d) + 1 := su_eq
            have hpo : ∀ i, i < 62 * d ∨ 62 * d + 62 ≤ i → pappend (gσ g) d k n i = gσ g i := fun i hi => by
              unfold pappend; rw [su_ne (by omega), su_ne (by omega), su_ne (by omega), su_ne (by omega)]
            have hpo2 : ∀ j, 0 < j → j < 14 → pappend (gσ g) d k n (62 * d + j) = gσ g (62 * d + j) := fun j h1 h2 => by
              unfold pappend; rw [su_ne (by omega), su_ne (by omega), su_ne (by omega), su_ne (by omega)]
            have hco : cOut W (xup (xup (xup W (x + 1 + (4 + 5 * d) + 1) (gσ g (62 * d)) (nI k)) (x + 1 + (4 + 5 * d) + 2) (gσ g (62 * d)) (nI n)) (x + 1 + (4 + 5 * d)) 4 (nI (gσ g (62 * d) + 1))) (x + 1 + (4 + 5 * d)) := cOut_t (cOut_up (by omega)) (cOut_t (cOut_up (by omega)) (cOut_up (by omega)))
            refine hQ _ (cRep_now hRW (kOut_c (by omega) hco) (kM_c hNW hw (by omega) hco hpo (kC_append (hNW.1.1 d (by omega)) hlt (hw.2.1 d (by omega)).2.2.2.2.1) (hpo2 _ (by decide) (by decide)) (hpo2 _ (by decide) (by decide)))) (tOut_t (tOut_rec hoW) (tOut_k (kOut_c (by omega) hco) (by omega) (by omega)))
          · simp [hn] at hpa
        · simp [hn] at hpa
  · rw [if_neg hn] at hQ
    simp (disch := (first | assumption | exact xnl_i _ | exact xnl_r _ | exact xnl_n | exact Bool.toNat_lt _ | exact hb _ | exact hb2 _ | omega | exact Nat.le_of_ble_eq_true rfl | rfl | decide)) only [pX4_add_0, pX4_add_1, pX4_add_4, pX4_add_7, pX4_add_8, nI_add, pk_mul, xn_sub, xn_and, xn_or, xn_xor, xn_shl, xn_shr, xn_lt, xn_le, xn_eq, xrf_some, xup_eq, xup_ne, xrow_eq, xrow_ne, Option.toList_some, Option.toList_none, List.singleton_append, List.nil_append, List.cons_append, xnl_n, xnl_i, xnl_r, Nat.zero_add, Nat.add_zero, ↓reduceIte, Nat.reduceEqDiff, Nat.reduceLeDiff, Nat.reduceAdd, Nat.reduceMul, Nat.reduceLT, Nat.one_ne_zero, eq_self, not_true_eq_false, not_false_eq_true, and_self, k_isContext, hn]
    exact hQ _ hR tOut_r
theorem c_prefer {a b : Int32} (hR : cRep S V x g) (hG : gG g) (hQ : ∀ V', cRep S V' x (pprefer g a b).2 → tOut V V' x → Q (some (.int (pprefer g a b).1)) S V') : xC E mX4_prefer [.ref x, .int a, .int b] S V Q := by
  have hT := hR.1; obtain ⟨tk0, tr0, tr1, tr2, tr3, tr4, tr5, tnow, ttry, hk0, hr0, hk1, hn1, hms, sk0, sn0, sms, ik0, in0, pk0, pr0, pr2, pr3, qk1, qn1, qk2, qn2, qk3, qn3⟩ := hT; have hKn := tnow; obtain ⟨mk0, mr0, mr1, mr2, mk1, mn1, mk2, mn2, mk3, mn3, mcs⟩ := hKn; have hw := gs_wf hG.1; have hb := wf_b hw; have hN := hR.2.1; have tnow0 := tnow.1
  show xX E mX4_prefer 0 [some (.ref x), some (.int a), some (.int b), none] [] S V Q
  unfold pprefer at hQ
  rcases xrng a 0 7 (by decide) (by decide) with ⟨d, _, hd, rfl⟩ | ⟨hn, _⟩
  · have hcc := ctx_n (show d < 8 by omega)
    rw [if_pos hcc, ix_n (by omega)] at hQ
    obtain ⟨mrd, hds⟩ := mcs d (by omega)
    have dk0 := hds.1
    rcases xrng b 0 9 (by decide) (by decide) with ⟨k, _, hk, rfl⟩ | ⟨hn, _⟩
    · have hck := rng_n (Nat.zero_le k) hk (by decide)
      rw [if_pos hck, ix_n (by omega)] at hQ
      obtain ⟨W, hRW, hoW, hrec⟩ := k_record (E := E) hR hG
      have hNW : kM W (x + 1) (gσ g) := hRW.2.1
      have d8W := (hNW.1.1 d (by omega)).2.2.2.2.1
      have hco : cOut W (xup W (x + 1 + (4 + 5 * d)) 8 (nI k)) (x + 1 + (4 + 5 * d)) := cOut_up (by omega)
      simp (disch := (first | assumption | exact xnl_i _ | exact xnl_r _ | exact xnl_n | exact Bool.toNat_lt _ | exact hb _ | exact hb2 _ | omega | exact Nat.le_of_ble_eq_true rfl | rfl | decide)) only [pX4_prefer_0, pX4_prefer_1, pX4_prefer_4, pX4_prefer_7, pX4_prefer_8, pX4_prefer_9, pX4_prefer_10, pX4_prefer_13, pX4_prefer_16, pX4_prefer_18, pX4_prefer_19, pX4_prefer_20, pX4_prefer_23, pX4_prefer_24, pX4_prefer_27, pX4_prefer_30, pX4_prefer_31, pX4_prefer_34, pX4_prefer_37, pX4_prefer_38, pX4_prefer_39, pX4_prefer_42, pX4_prefer_43, pX4_prefer_44, pX4_prefer_47, pX4_prefer_50, pX4_prefer_51, pX4_prefer_52, pX4_prefer_53, pX4_prefer_56, pX4_prefer_57, nI_add, pk_mul, xn_sub, xn_and, xn_or, xn_xor, xn_shl, xn_shr, xn_lt, xn_le, xn_eq, xrf_some, xup_eq, xup_ne, xrow_eq, xrow_ne, Option.toList_some, Option.toList_none, List.singleton_append, List.nil_append, List.cons_append, xnl_n, xnl_i, xnl_r, Nat.zero_add, Nat.add_zero, ↓reduceIte, Nat.reduceEqDiff, Nat.reduceLeDiff, Nat.reduceAdd, Nat.reduceMul, Nat.reduceLT, Nat.one_ne_zero, eq_self, not_true_eq_false, not_false_eq_true, and_self, k_isContext, hcc, k_isPriority, hck, tk0, tr0, tr1, tr2, tr3, tr4, tr5, mk0, mr0, mr1, mr2, mrd, dk0, hrec, d8W]
      exact hQ _ (cRep_now hRW (kOut_c (by omega) hco) (kM_c hNW hw (by omega) hco (fun i hi => su_ne (by omega)) (kC_plain (hNW.1.1 d (by omega)) (by omega) (hw.2.1 d (by omega)).2.2.2.2.1) (su_ne (by omega)) (su_ne (by omega)))) (tOut_t (tOut_rec hoW) (tOut_k (kOut_c (by omega) hco) (by omega) (by omega)))
    · rw [if_neg hn] at hQ
      simp (disch := (first | assumption | exact xnl_i _ | exact xnl_r _ | exact xnl_n | exact Bool.toNat_lt _ | exact hb _ | exact hb2 _ | omega | exact Nat.le_of_ble_eq_true rfl | rfl | decide)) only [pX4_prefer_0, pX4_prefer_1, pX4_prefer_4, pX4_prefer_7, pX4_prefer_8, pX4_prefer_9, pX4_prefer_10, pX4_prefer_13, pX4_prefer_16, pX4_prefer_18, nI_add, pk_mul, xn_sub, xn_and, xn_or, xn_xor, xn_shl, xn_shr, xn_lt, xn_le, xn_eq, xrf_some, xup_eq, xup_ne, xrow_eq, xrow_ne, Option.toList_some, Option.toList_none, List.singleton_append, List.nil_append, List.cons_append, xnl_n, xnl_i, xnl_r, Nat.zero_add, Nat.add_zero, ↓reduceIte, Nat.reduceEqDiff, Nat.reduceLeDiff, Nat.reduceAdd, Nat.reduceMul, Nat.reduceLT, Nat.one_ne_zero, eq_self, not_true_eq_false, not_false_eq_true, and_self, k_isContext, hcc, k_isPriority, hn]
      exact hQ _ hR tOut_r
  · rw [if_neg hn] at hQ
    simp (disch := (first | assumption | exact xnl_i _ | exact xnl_r _ | exact xnl_n | exact Bool.toNat_lt _ | exact hb _ | exact hb2 _ | omega | exact Nat.le_of_ble_eq_true rfl | rfl | decide)) only [pX4_prefer_0, pX4_prefer_1, pX4_prefer_4, pX4_prefer_7, pX4_prefer_8, nI_add, pk_mul, xn_sub, xn_and, xn_or, xn_xor, xn_shl, xn_shr, xn_lt, xn_le, xn_eq, xrf_some, xup_eq, xup_ne, xrow_eq, xrow_ne, Option.toList_some, Option.toList_none, List.singleton_append, List.nil_append, List.cons_append, xnl_n, xnl_i, xnl_r, Nat.zero_add, Nat.add_zero, ↓reduceIte, Nat.reduceEqDiff, Nat.reduceLeDiff, Nat.reduceAdd, Nat.reduceMul, Nat.reduceLT, Nat.one_ne_zero, eq_self, not_true_eq_false, not_false_eq_true, and_self, k_isContext, hn]
    exact hQ _ hR tOut_r
theorem c_post {a b : Int32} (hR : cRep S V x g) (hG : gG g) (hQ : ∀ V', cRep S V' x (ppost g a b).2 → tOut V V' x → Q (some (.int (ppost g a b).1)) S V') : xC E mX4_post [.ref x, .int a, .int b] S V Q := by
  have hT := hR.1; obtain ⟨tk0, tr0, tr1, tr2, tr3, tr4, tr5, tnow, ttry, hk0, hr0, hk1, hn1, hms, sk0, sn0, sms, ik0, in0, pk0, pr0, pr2, pr3, qk1, qn1, qk2, qn2, qk3, qn3⟩ := hT; have hKn := tnow; obtain ⟨mk0, mr0, mr1, mr2, mk1, mn1, mk2, mn2, mk3, mn3, mcs⟩ := hKn; have hw := gs_wf hG.1; have hb := wf_b hw; have hN := hR.2.1; have tnow0 := tnow.1
  show xX E mX4_post 0 [some (.ref x), some (.int a), some (.int b), none] [] S V Q
  unfold ppost at hQ
  rcases xrng a 0 7 (by decide) (by decide) with ⟨d, _, hd, rfl⟩ | ⟨hn, _⟩
  · have hcc := ctx_n (show d < 8 by omega)
    rw [if_pos hcc, ix_n (by omega)] at hQ
    obtain ⟨mrd, hds⟩ := mcs d (by omega)
    have dk0 := hds.1
    have d9 := (hN.1.1 d (by omega)).2.2.2.2.2.1
    have hr4 := (hw.2.1 d (by omega)).2.2.2.2.1
    rcases xrng b 0 999 (by decide) (by decide) with ⟨k, _, hk, rfl⟩ | ⟨hn, h | h⟩
    · have hck := rng_n (Nat.zero_le k) hk (by decide)
      have hk1000 : k < 1000 := by omega
      rw [if_pos hck, ix_n (by omega)] at hQ
      by_cases h4 : gσ g (62 * d + 4) = 4
      · rw [if_pos h4] at hQ
        simp (disch := (first | assumption | exact xnl_i _ | exact xnl_r _ | exact xnl_n | exact Bool.toNat_lt _ | exact hb _ | exact hb2 _ | omega | exact Nat.le_of_ble_eq_true rfl | rfl | decide)) only [pX4_post_0, pX4_post_1, pX4_post_4, pX4_post_7, pX4_post_8, pX4_post_9, pX4_post_10, pX4_post_13, pX4_post_14, pX4_post_17, pX4_post_20, pX4_post_22, pX4_post_23, pX4_post_24, pX4_post_27, pX4_post_30, pX4_post_31, pX4_post_32, pX4_post_33, pX4_post_34, pX4_post_37, pX4_post_38, pX4_post_41, pX4_post_43, nI_add, pk_mul, xn_sub, xn_and, xn_or, xn_xor, xn_shl, xn_shr, xn_lt, xn_le, xn_eq, xrf_some, xup_eq, xup_ne, xrow_eq, xrow_ne, Option.toList_some, Option.toList_none, List.singleton_append, List.nil_append, List.cons_append, xnl_n, xnl_i, xnl_r, Nat.zero_add, Nat.add_zero, ↓reduceIte, Nat.reduceEqDiff, Nat.reduceLeDiff, Nat.reduceAdd, Nat.reduceMul, Nat.reduceLT, Nat.one_ne_zero, eq_self, not_true_eq_false, not_false_eq_true, and_self, k_isContext, hcc, Nat.not_lt_zero, hk1000, tk0, tr0, tr1, tr2, tr3, tr4, tr5, mk0, mr0, mr1, mr2, mrd, dk0, d9, h4]
        exact hQ _ hR tOut_r
      · rw [if_neg h4] at hQ
        have hlt : gσ g (62 * d + 4) < 4 := by omega
        obtain ⟨W, hRW, hoW, hrec⟩ := k_record (E := E) hR hG
        have hNW : kM W (x + 1) (gσ g) := hRW.2.1
        have hrecv := fun (Q : Option Value → xSh → xV → Prop) => k_receive (E := E) (Q := Q) (n := k) hds (hNW.1.1 d (by omega)) hlt
        have hco : cOut W (xup (xup W (x + 1 + (4 + 5 * d) + 3) (gσ g (62 * d + 4)) (nI k)) (x + 1 + (4 + 5 * d)) 9 (nI (gσ g (62 * d + 4) + 1))) (x + 1 + (4 + 5 * d)) := cOut_t (cOut_up (by omega)) (cOut_up (by omega))
        have hpo : ∀ i, ¬ i = 62 * d + 4 → ¬ i = 62 * d + (5 + gσ g (62 * d + 4)) → precv (gσ g) d k i = gσ g i := fun i h1 h2 => by unfold precv; rw [su_ne h1, su_ne h2]
        simp (disch := (first | assumption | exact xnl_i _ | exact xnl_r _ | exact xnl_n | exact Bool.toNat_lt _ | exact hb _ | exact hb2 _ | omega | exact Nat.le_of_ble_eq_true rfl | rfl | decide)) only [pX4_post_0, pX4_post_1, pX4_post_4, pX4_post_7, pX4_post_8, pX4_post_9, pX4_post_10, pX4_post_13, pX4_post_14, pX4_post_17, pX4_post_20, pX4_post_22, pX4_post_23, pX4_post_24, pX4_post_27, pX4_post_30, pX4_post_31, pX4_post_32, pX4_post_33, pX4_post_34, pX4_post_37, pX4_post_38, pX4_post_41, pX4_post_43, pX4_post_44, pX4_post_45, pX4_post_48, pX4_post_49, pX4_post_52, pX4_post_55, pX4_post_56, pX4_post_57, pX4_post_60, pX4_post_61, pX4_post_64, nI_add, pk_mul, xn_sub, xn_and, xn_or, xn_xor, xn_shl, xn_shr, xn_lt, xn_le, xn_eq, xrf_some, xup_eq, xup_ne, xrow_eq, xrow_ne, Option.toList_some, Option.toList_none, List.singleton_append, List.nil_append, List.cons_append, xnl_n, xnl_i, xnl_r, Nat.zero_add, Nat.add_zero, ↓reduceIte, Nat.reduceEqDiff, Nat.reduceLeDiff, Nat.reduceAdd, Nat.reduceMul, Nat.reduceLT, Nat.one_ne_zero, eq_self, not_true_eq_false, not_false_eq_true, and_self, k_isContext, hcc, Nat.not_lt_zero, hk1000, tk0, tr0, tr1, tr2, tr3, tr4, tr5, mk0, mr0, mr1, mr2, mrd, dk0, d9, hlt, hrec, hrecv]
        exact hQ _ (cRep_now hRW (kOut_c (by omega) hco) (kM_c hNW hw (by omega) hco (fun i hi => hpo i (by omega) (by omega)) (kC_recv (hNW.1.1 d (by omega)) hlt) (hpo _ (by omega) (by omega)) (hpo _ (by omega) (by omega)))) (tOut_t (tOut_rec hoW) (tOut_k (kOut_c (by omega) hco) (by omega) (by omega)))
    · rw [if_neg hn] at hQ
      simp (disch := (first | assumption | exact xnl_i _ | exact xnl_r _ | exact xnl_n | exact Bool.toNat_lt _ | exact hb _ | exact hb2 _ | omega | exact Nat.le_of_ble_eq_true rfl | rfl | decide)) only [pX4_post_0, pX4_post_1, pX4_post_4, pX4_post_7, pX4_post_8, pX4_post_9, pX4_post_10, pX4_post_13, pX4_post_14, pX4_post_17, pX4_post_20, pX4_post_22, nI_add, pk_mul, xn_sub, xn_and, xn_or, xn_xor, xn_shl, xn_shr, xn_lt, xn_le, xn_eq, xrf_some, xup_eq, xup_ne, xrow_eq, xrow_ne, Option.toList_some, Option.toList_none, List.singleton_append, List.nil_append, List.cons_append, xnl_n, xnl_i, xnl_r, Nat.zero_add, Nat.add_zero, ↓reduceIte, Nat.reduceEqDiff, Nat.reduceLeDiff, Nat.reduceAdd, Nat.reduceMul, Nat.reduceLT, Nat.one_ne_zero, eq_self, not_true_eq_false, not_false_eq_true, and_self, k_isContext, hcc, h]
      exact hQ _ hR tOut_r
    · rw [if_neg hn] at hQ
      have h0 := xlt_0 (by decide) h
      have h1 : ¬ b < nI 1000 := fun z => by
        have := xlt_le (by decide) h
        exact absurd z (Int32.not_lt.mpr this)
      simp (disch := (first | assumption | exact xnl_i _ | exact xnl_r _ | exact xnl_n | exact Bool.toNat_lt _ | exact hb _ | exact hb2 _ | omega | exact Nat.le_of_ble_eq_true rfl | rfl | decide)) only [pX4_post_0, pX4_post_1, pX4_post_4, pX4_post_7, pX4_post_8, pX4_post_9, pX4_post_10, pX4_post_13, pX4_post_14, pX4_post_17, pX4_post_20, pX4_post_22, nI_add, pk_mul, xn_sub, xn_and, xn_or, xn_xor, xn_shl, xn_shr, xn_lt, xn_le, xn_eq, xrf_some, xup_eq, xup_ne, xrow_eq, xrow_ne, Option.toList_some, Option.toList_none, List.singleton_append, List.nil_append, List.cons_append, xnl_n, xnl_i, xnl_r, Nat.zero_add, Nat.add_zero, ↓reduceIte, Nat.reduceEqDiff, Nat.reduceLeDiff, Nat.reduceAdd, Nat.reduceMul, Nat.reduceLT, Nat.one_ne_zero, eq_self, not_true_eq_false, not_false_eq_true, and_self, k_isContext, hcc, h0, h1]
      exact hQ _ hR tOut_r
  · rw [if_neg hn] at hQ
    simp (disch := (first | assumption | exact xnl_i _ | exact xnl_r _ | exact xnl_n | exact Bool.toNat_lt _ | exact hb _ | exact hb2 _ | omega | exact Nat.le_of_ble_eq_true rfl | rfl | decide)) only [pX4_post_0, pX4_post_1, pX4_post_4, pX4_post_7, pX4_post_8, nI_add, pk_mul, xn_sub, xn_and, xn_or, xn_xor, xn_shl, xn_shr, xn_lt, xn_le, xn_eq, xrf_some, xup_eq, xup_ne, xrow_eq, xrow_ne, Option.toList_some, Option.toList_none, List.singleton_append, List.nil_append, List.cons_append, xnl_n, xnl_i, xnl_r, Nat.zero_add, Nat.add_zero, ↓reduceIte, Nat.reduceEqDiff, Nat.reduceLeDiff, Nat.reduceAdd, Nat.reduceMul, Nat.reduceLT, Nat.one_ne_zero, eq_self, not_true_eq_false, not_false_eq_true, and_self, k_isContext, hn]
    exact hQ _ hR tOut_r
theorem c_release {a : Int32} (hR : cRep S V x g) (hG : gG g) (hQ : ∀ V', cRep S V' x (prelease g a).2 → tOut V V' x → Q (some (.int (prelease g a).1)) S V') : xC E mX4_release [.ref x, .int a] S V Q := by
  have hT := hR.1; obtain ⟨tk0, tr0, tr1, tr2, tr3, tr4, tr5, tnow, ttry, hk0, hr0, hk1, hn1, hms, sk0, sn0, sms, ik0, in0, pk0, pr0, pr2, pr3, qk1, qn1, qk2, qn2, qk3, qn3⟩ := hT; have hKn := tnow; obtain ⟨mk0, mr0, mr1, mr2, mk1, mn1, mk2, mn2, mk3, mn3, mcs⟩ := hKn; have hw := gs_wf hG.1; have hb := wf_b hw; have hN := hR.2.1; have tnow0 := tnow.1
  show xX E mX4_release 0 [some (.ref x), some (.int a), none] [] S V Q
  unfold prelease at hQ
  rcases xrng a 0 3 (by decide) (by decide) with ⟨d, _, hd, rfl⟩ | ⟨hn, _⟩
  · have hcc := rng_n (Nat.zero_le d) hd (by decide)
    rw [if_pos hcc, ix_n (by omega)] at hQ
    have hh := hN.1.2.1 d (by omega)
    have hb6 := hw.1 (497 + d)
    by_cases h0 : gσ g (497 + d) = 0
    · rw [if_pos h0] at hQ
      rw [h0, hI_0] at hh
      simp (disch := (first | assumption | exact xnl_i _ | exact xnl_r _ | exact xnl_n | exact Bool.toNat_lt _ | exact hb _ | exact hb2 _ | omega | exact Nat.le_of_ble_eq_true rfl | rfl | decide)) only [pX4_release_0, pX4_release_1, pX4_release_4, pX4_release_7, pX4_release_8, pX4_release_9, pX4_release_10, pX4_release_13, pX4_release_16, pX4_release_17, pX4_release_18, pX4_release_19, pX4_release_20, pX4_release_22, pX4_release_25, pX4_release_27, nI_add, pk_mul, xn_sub, xn_and, xn_or, xn_xor, xn_shl, xn_shr, xn_lt, xn_le, xn_eq, xrf_some, xup_eq, xup_ne, xrow_eq, xrow_ne, Option.toList_some, Option.toList_none, List.singleton_append, List.nil_append, List.cons_append, xnl_n, xnl_i, xnl_r, Nat.zero_add, Nat.add_zero, ↓reduceIte, Nat.reduceEqDiff, Nat.reduceLeDiff, Nat.reduceAdd, Nat.reduceMul, Nat.reduceLT, Nat.one_ne_zero, eq_self, not_true_eq_false, not_false_eq_true, and_self, k_isLock, hcc, tk0, tr0, tr1, tr2, tr3, tr4, tr5, mk0, mr0, mr1, mr2, hh]
      exact hQ _ hR tOut_r
    · rw [if_neg h0] at hQ
      rw [hI_s h0] at hh
      have hne : ¬ nI (gσ g (497 + d) - 1) = -6 := xn_ne6' (by omega)
      obtain ⟨W, hRW, hoW, hrec⟩ := k_record (E := E) hR hG
      have hNW : kM W (x + 1) (gσ g) := hRW.2.1
      have hkh := kN_h (k := d) (v := 0) hNW.1 (fun d hd => ⟨(hw.2.1 d hd).2.2.2.2.1, (hw.2.1 d hd).1⟩) (by omega)
      rw [hI_0] at hkh
      have hko : kOut W (xup W (x + 1 + 2) d (-6)) (x + 1) := kOut_up (by omega)
      simp (disch := (first | assumption | exact xnl_i _ | exact xnl_r _ | exact xnl_n | exact Bool.toNat_lt _ | exact hb _ | exact hb2 _ | omega | exact Nat.le_of_ble_eq_true rfl | rfl | decide)) only [pX4_release_0, pX4_release_1, pX4_release_4, pX4_release_7, pX4_release_8, pX4_release_9, pX4_release_10, pX4_release_13, pX4_release_16, pX4_release_17, pX4_release_18, pX4_release_19, pX4_release_20, pX4_release_22, pX4_release_25, pX4_release_27, pX4_release_28, pX4_release_29, pX4_release_32, pX4_release_33, pX4_release_36, pX4_release_39, pX4_release_40, pX4_release_43, pX4_release_46, pX4_release_47, pX4_release_49, pX4_release_50, pX4_release_51, nI_add, pk_mul, xn_sub, xn_and, xn_or, xn_xor, xn_shl, xn_shr, xn_lt, xn_le, xn_eq, xrf_some, xup_eq, xup_ne, xrow_eq, xrow_ne, Option.toList_some, Option.toList_none, List.singleton_append, List.nil_append, List.cons_append, xnl_n, xnl_i, xnl_r, Nat.zero_add, Nat.add_zero, ↓reduceIte, Nat.reduceEqDiff, Nat.reduceLeDiff, Nat.reduceAdd, Nat.reduceMul, Nat.reduceLT, Nat.one_ne_zero, eq_self, not_true_eq_false, not_false_eq_true, and_self, k_isLock, hcc, tk0, tr0, tr1, tr2, tr3, tr4, tr5, mk0, mr0, mr1, mr2, hh, hne, hrec]
      exact hQ _ (cRep_now hRW hko ⟨hkh, by rw [xup_ne (by omega), su_ne (by omega)]; exact hNW.2⟩) (tOut_t (tOut_rec hoW) (tOut_k hko (by omega) (by omega)))
  · rw [if_neg hn] at hQ
    simp (disch := (first | assumption | exact xnl_i _ | exact xnl_r _ | exact xnl_n | exact Bool.toNat_lt _ | exact hb _ | exact hb2 _ | omega | exact Nat.le_of_ble_eq_true rfl | rfl | decide)) only [pX4_release_0, pX4_release_1, pX4_release_4, pX4_release_7, pX4_release_8, nI_add, pk_mul, xn_sub, xn_and, xn_or, xn_xor, xn_shl, xn_shr, xn_lt, xn_le, xn_eq, xrf_some, xup_eq, xup_ne, xrow_eq, xrow_ne, Option.toList_some, Option.toList_none, List.singleton_append, List.nil_append, List.cons_append, xnl_n, xnl_i, xnl_r, Nat.zero_add, Nat.add_zero, ↓reduceIte, Nat.reduceEqDiff, Nat.reduceLeDiff, Nat.reduceAdd, Nat.reduceMul, Nat.reduceLT, Nat.one_ne_zero, eq_self, not_true_eq_false, not_false_eq_true, and_self, k_isLock, hn]
    exact hQ _ hR tOut_r
theorem c_step {a : Int32} (hR : cRep S V x g) (hG : gG g) (hQ : ∀ V', cRep S V' x (pstep g a).2 → tOut V V' x → Q (some (.int (pstep g a).1)) S V') : xC E mX4_step [.ref x, .int a] S V Q := by
  have hT := hR.1; obtain ⟨tk0, tr0, tr1, tr2, tr3, tr4, tr5, tnow, ttry, hk0, hr0, hk1, hn1, hms, sk0, sn0, sms, ik0, in0, pk0, pr0, pr2, pr3, qk1, qn1, qk2, qn2, qk3, qn3⟩ := hT; have hKn := tnow; obtain ⟨mk0, mr0, mr1, mr2, mk1, mn1, mk2, mn2, mk3, mn3, mcs⟩ := hKn; have hw := gs_wf hG.1; have hb := wf_b hw; have hN := hR.2.1; have tnow0 := tnow.1
  show xX E mX4_step 0 [some (.ref x), some (.int a)] [] S V Q
  unfold pstep at hQ
  rcases xrng a 1 200 (by decide) (by decide) with ⟨d, hd1, hd, rfl⟩ | ⟨hn, _⟩
  · have hcc := rng_n hd1 hd (by decide)
    rw [if_pos hcc, ix_n (by omega)] at hQ
    have h3 := hN.2
    have h6 := hG.1.2
    by_cases h : 100000 < gσ g 496 + d
    · rw [if_pos h] at hQ
      have h' : ¬ gσ g 496 + d ≤ 100000 := by omega
      simp (disch := (first | assumption | exact xnl_i _ | exact xnl_r _ | exact xnl_n | exact Bool.toNat_lt _ | exact hb _ | exact hb2 _ | omega | exact Nat.le_of_ble_eq_true rfl | rfl | decide)) only [pX4_step_0, pX4_step_1, pX4_step_4, pX4_step_7, pX4_step_9, pX4_step_10, pX4_step_11, pX4_step_14, pX4_step_17, pX4_step_18, pX4_step_19, pX4_step_21, pX4_step_24, pX4_step_26, nI_add, pk_mul, xn_sub, xn_and, xn_or, xn_xor, xn_shl, xn_shr, xn_lt, xn_le, xn_eq, xrf_some, xup_eq, xup_ne, xrow_eq, xrow_ne, Option.toList_some, Option.toList_none, List.singleton_append, List.nil_append, List.cons_append, xnl_n, xnl_i, xnl_r, Nat.zero_add, Nat.add_zero, ↓reduceIte, Nat.reduceEqDiff, Nat.reduceLeDiff, Nat.reduceAdd, Nat.reduceMul, Nat.reduceLT, Nat.one_ne_zero, eq_self, not_true_eq_false, not_false_eq_true, and_self, k_isStep, hcc, tk0, tr0, tr1, tr2, tr3, tr4, tr5, mk0, mr0, mr1, mr2, h3, h']
      exact hQ _ hR tOut_r
    · rw [if_neg h] at hQ
      have h' : gσ g 496 + d ≤ 100000 := by omega
      obtain ⟨W, hRW, hoW, hrec⟩ := k_record (E := E) hR hG
      have hNW : kM W (x + 1) (gσ g) := hRW.2.1
      obtain ⟨W2, p1, p2, p3⟩ := k_passSlots (E := E) tnow hNW hG.1 hd
      simp (disch := (first | assumption | exact xnl_i _ | exact xnl_r _ | exact xnl_n | exact Bool.toNat_lt _ | exact hb _ | exact hb2 _ | omega | exact Nat.le_of_ble_eq_true rfl | rfl | decide)) only [pX4_step_0, pX4_step_1, pX4_step_4, pX4_step_7, pX4_step_9, pX4_step_10, pX4_step_11, pX4_step_14, pX4_step_17, pX4_step_18, pX4_step_19, pX4_step_21, pX4_step_24, pX4_step_26, pX4_step_27, pX4_step_28, pX4_step_31, pX4_step_32, pX4_step_35, pX4_step_38, pX4_step_39, pX4_step_42, pX4_step_43, pX4_step_46, nI_add, pk_mul, xn_sub, xn_and, xn_or, xn_xor, xn_shl, xn_shr, xn_lt, xn_le, xn_eq, xrf_some, xup_eq, xup_ne, xrow_eq, xrow_ne, Option.toList_some, Option.toList_none, List.singleton_append, List.nil_append, List.cons_append, xnl_n, xnl_i, xnl_r, Nat.zero_add, Nat.add_zero, ↓reduceIte, Nat.reduceEqDiff, Nat.reduceLeDiff, Nat.reduceAdd, Nat.reduceMul, Nat.reduceLT, Nat.one_ne_zero, eq_self, not_true_eq_false, not_false_eq_true, and_self, k_isStep, hcc, tk0, tr0, tr1, tr2, tr3, tr4, tr5, mk0, mr0, mr1, mr2, h3, h', hrec, p3]
      exact hQ _ (cRep_now hRW p2 p1) (tOut_t (tOut_rec hoW) (tOut_k p2 (by omega) (by omega)))
  · rw [if_neg hn] at hQ
    simp (disch := (first | assumption | exact xnl_i _ | exact xnl_r _ | exact xnl_n | exact Bool.toNat_lt _ | exact hb _ | exact hb2 _ | omega | exact Nat.le_of_ble_eq_true rfl | rfl | decide)) only [pX4_step_0, pX4_step_1, pX4_step_4, pX4_step_7, pX4_step_9, nI_add, pk_mul, xn_sub, xn_and, xn_or, xn_xor, xn_shl, xn_shr, xn_lt, xn_le, xn_eq, xrf_some, xup_eq, xup_ne, xrow_eq, xrow_ne, Option.toList_some, Option.toList_none, List.singleton_append, List.nil_append, List.cons_append, xnl_n, xnl_i, xnl_r, Nat.zero_add, Nat.add_zero, ↓reduceIte, Nat.reduceEqDiff, Nat.reduceLeDiff, Nat.reduceAdd, Nat.reduceMul, Nat.reduceLT, Nat.one_ne_zero, eq_self, not_true_eq_false, not_false_eq_true, and_self, k_isStep, hn]
    exact hQ _ hR tOut_r
theorem c_run (hR : cRep S V x g) (hG : gG g) (hQ : ∀ V', cRep S V' x (prun g).2 → tOut V V' x → Q (some (.int (prun g).1)) S V') : xC E mX4_run [.ref x] S V Q := by
  have hT := hR.1; obtain ⟨tk0, tr0, tr1, tr2, tr3, tr4, tr5, tnow, ttry, hk0, hr0, hk1, hn1, hms, sk0, sn0, sms, ik0, in0, pk0, pr0, pr2, pr3, qk1, qn1, qk2, qn2, qk3, qn3⟩ := hT; have hKn := tnow; obtain ⟨mk0, mr0, mr1, mr2, mk1, mn1, mk2, mn2, mk3, mn3, mcs⟩ := hKn; have hw := gs_wf hG.1; have hb := wf_b hw; have hN := hR.2.1; have tnow0 := tnow.1
  show xX E mX4_run 0 [some (.ref x)] [] S V Q
  unfold prun at hQ
  have h3 := hN.2
  have h6 := hG.1.2
  by_cases h : 99000 < gσ g 496
  · rw [if_pos h] at hQ
    have h' : ¬ gσ g 496 ≤ 99000 := by omega
    simp (disch := (first | assumption | exact xnl_i _ | exact xnl_r _ | exact xnl_n | exact Bool.toNat_lt _ | exact hb _ | exact hb2 _ | omega | exact Nat.le_of_ble_eq_true rfl | rfl | decide)) only [pX4_run_0, pX4_run_1, pX4_run_4, pX4_run_7, pX4_run_9, pX4_run_12, pX4_run_14, nI_add, pk_mul, xn_sub, xn_and, xn_or, xn_xor, xn_shl, xn_shr, xn_lt, xn_le, xn_eq, xrf_some, xup_eq, xup_ne, xrow_eq, xrow_ne, Option.toList_some, Option.toList_none, List.singleton_append, List.nil_append, List.cons_append, xnl_n, xnl_i, xnl_r, Nat.zero_add, Nat.add_zero, ↓reduceIte, Nat.reduceEqDiff, Nat.reduceLeDiff, Nat.reduceAdd, Nat.reduceMul, Nat.reduceLT, Nat.one_ne_zero, eq_self, not_true_eq_false, not_false_eq_true, and_self, tk0, tr0, tr1, tr2, tr3, tr4, tr5, mk0, mr0, mr1, mr2, h3, h']
    exact hQ _ hR tOut_r
  · rw [if_neg h] at hQ
    have h' : gσ g 496 ≤ 99000 := by omega
    obtain ⟨W, hRW, hoW, hrec⟩ := k_record (E := E) hR hG
    have hNW : kM W (x + 1) (gσ g) := hRW.2.1
    obtain ⟨W2, p1, p2, p3⟩ := k_passUntil (E := E) (m := 255) tnow hNW hG.1 (by decide)
    rw [kcnt_run] at p1 p3
    simp (disch := (first | assumption | exact xnl_i _ | exact xnl_r _ | exact xnl_n | exact Bool.toNat_lt _ | exact hb _ | exact hb2 _ | omega | exact Nat.le_of_ble_eq_true rfl | rfl | decide)) only [pX4_run_0, pX4_run_1, pX4_run_4, pX4_run_7, pX4_run_9, pX4_run_12, pX4_run_14, pX4_run_15, pX4_run_16, pX4_run_19, pX4_run_20, pX4_run_23, pX4_run_26, pX4_run_27, pX4_run_30, pX4_run_33, pX4_run_36, nI_add, pk_mul, xn_sub, xn_and, xn_or, xn_xor, xn_shl, xn_shr, xn_lt, xn_le, xn_eq, xrf_some, xup_eq, xup_ne, xrow_eq, xrow_ne, Option.toList_some, Option.toList_none, List.singleton_append, List.nil_append, List.cons_append, xnl_n, xnl_i, xnl_r, Nat.zero_add, Nat.add_zero, ↓reduceIte, Nat.reduceEqDiff, Nat.reduceLeDiff, Nat.reduceAdd, Nat.reduceMul, Nat.reduceLT, Nat.one_ne_zero, eq_self, not_true_eq_false, not_false_eq_true, and_self, tk0, tr0, tr1, tr2, tr3, tr4, tr5, mk0, mr0, mr1, mr2, h3, h', hrec, p3]
    exact hQ _ (cRep_now hRW p2 p1) (tOut_t (tOut_rec hoW) (tOut_k p2 (by omega) (by omega)))
end KCA

