/-! ===== the reference: who runs; a slot ===== -/
theorem xn_ne6 {c : Nat} (h : c < 8) : ¬ nI c = -6 := by
  have : ∀ c : Nat, c < 8 → ¬ nI c = -6 := by decide +kernel
  exact this c h
theorem plent_lt {σ : Nat → Nat} (hb : ∀ i, σ i < 2147483648) (c : Nat) : plent σ c < 2147483648 := by
  have : ∀ i, plentN σ (pfar σ) c i < 2147483648 := by
    intro i
    induction i with
    | zero => exact hb _
    | succ n ihn => unfold plentN; split; exact hb _; exact ihn
  exact this 8
theorem pbest_1 {σ : Nat → Nat} {own : Nat} : ∀ {k c}, pbest σ own k = some c → c < 8 ∧ pst σ c = 1 := by
  intro k
  induction k with
  | zero => intro c h; cases h
  | succ k ih =>
    intro c h
    unfold pbest at h
    split at h
    · rename_i h2; cases h; exact ⟨Nat.mod_lt _ (by decide), h2.1⟩
    · exact ih h
theorem prunner_1 {σ : Nat → Nat} {own c : Nat} (ho : own < 8) (h : prunner σ own = some c) : c < 8 ∧ pst σ c = 1 := by
  unfold prunner at h
  split at h
  · rename_i h2; cases h; exact ⟨ho, h2⟩
  · exact pbest_1 h
theorem pst_1 {σ : Nat → Nat} {c : Nat} (h : pst σ c = 1) : σ (62 * c + 1) < σ (62 * c) ∧ σ (62 * c + 9) = 0 ∧ (pcmd σ c (σ (62 * c + 1)) = 1 → ¬ σ (62 * parg σ c (σ (62 * c + 1)) + 4) = 4) ∧ (pcmd σ c (σ (62 * c + 1)) = 2 → 0 < σ (62 * c + 4)) ∧ (pcmd σ c (σ (62 * c + 1)) = 3 → σ (497 + parg σ c (σ (62 * c + 1))) = 0) := by
  unfold pst at h
  by_cases h0 : σ (62 * c) ≤ σ (62 * c + 1)
  · rw [if_pos h0] at h; omega
  · rw [if_neg h0] at h
    by_cases h1 : 0 < σ (62 * c + 9)
    · rw [if_pos h1] at h; omega
    · rw [if_neg h1] at h
      refine ⟨by omega, by omega, fun e => ?_, fun e => ?_, fun e => ?_⟩
      · rw [if_pos e] at h; intro z; rw [if_pos z] at h; omega
      · rw [if_neg (by omega), if_pos e] at h
        by_cases z : σ (62 * c + 4) = 0
        · rw [if_pos z] at h; omega
        · omega
      · rw [if_neg (by omega), if_neg (by omega), if_pos e] at h
        by_cases z : 0 < σ (497 + parg σ c (σ (62 * c + 1)))
        · rw [if_pos z] at h; omega
        · omega
theorem pwakes_at (σ : Nat → Nat) : ∀ n i, itN (fun c τ => su τ (62 * c + 9) (τ (62 * c + 9) - 1)) n σ i = if ∃ c, c < n ∧ i = 62 * c + 9 then σ i - 1 else σ i := by
  intro n
  induction n with
  | zero => intro i; rw [if_neg (fun ⟨c, h, _⟩ => by omega)]; rfl
  | succ n ih =>
    intro i
    rw [itN_s]
    by_cases h : i = 62 * n + 9
    · subst h
      rw [su_eq, ih, if_neg (fun ⟨c, h1, h2⟩ => by omega), if_pos ⟨n, by omega, rfl⟩]
    · rw [su_ne h, ih]
      by_cases h2 : ∃ c, c < n ∧ i = 62 * c + 9
      · obtain ⟨c, h3, h4⟩ := h2
        rw [if_pos ⟨c, h3, h4⟩, if_pos ⟨c, by omega, h4⟩]
      · rw [if_neg h2, if_neg (fun ⟨c, h3, h4⟩ => h2 ⟨c, by omega, h4⟩)]
theorem pwakes_9 {σ : Nat → Nat} {c : Nat} (hc : c < 8) : pwakes σ (62 * c + 9) = σ (62 * c + 9) - 1 := by
  unfold pwakes; rw [pwakes_at, if_pos ⟨c, hc, rfl⟩]
theorem pwakes_o {σ : Nat → Nat} {i : Nat} (h : ∀ c, c < 8 → ¬ i = 62 * c + 9) : pwakes σ i = σ i := by
  unfold pwakes; rw [pwakes_at, if_neg (fun ⟨c, h1, h2⟩ => h c h1 h2)]
theorem pwakes_c {σ : Nat → Nat} {c j : Nat} (hc : c < 8) (hj : j < 62) (h : ¬ j = 9) : pwakes σ (62 * c + j) = σ (62 * c + j) := pwakes_o (fun d _ => by omega)
theorem pwakes_c0 {σ : Nat → Nat} {c : Nat} (hc : c < 8) : pwakes σ (62 * c) = σ (62 * c) := pwakes_o (fun d _ => by omega)
theorem pwakes_u {σ : Nat → Nat} {j : Nat} (h : 496 ≤ j) : pwakes σ j = σ j := pwakes_o (fun d _ => by omega)
theorem pwakes_le {σ : Nat → Nat} (i : Nat) : pwakes σ i ≤ σ i := by
  unfold pwakes; rw [pwakes_at]; split <;> omega
theorem wf_wakes {σ : Nat → Nat} (hw : wf σ) : wf (pwakes σ) := by
  refine ⟨fun i => Nat.le_trans (pwakes_le i) (hw.1 i), fun c hc => ?_, fun k hk => by rw [pwakes_u (by omega)]; exact hw.2.2 k hk⟩
  obtain ⟨w1, w2, w3, w4, w5, w6, w7, w8, w9⟩ := hw.2.1 c hc
  have e : ∀ j, j < 62 → ¬ j = 9 → pwakes σ (62 * c + j) = σ (62 * c + j) := fun j h1 h2 => pwakes_c hc h1 h2
  have e0 : pwakes σ (62 * c) = σ (62 * c) := pwakes_c0 hc
  have e496 : pwakes σ 496 = σ 496 := pwakes_u (by omega)
  refine ⟨by rw [e0]; exact w1, by rw [e0, e 1 (by omega) (by omega)]; exact w2, by rw [e 2 (by omega) (by omega)]; exact w3, by rw [e 3 (by omega) (by omega)]; exact w4, by rw [e 4 (by omega) (by omega)]; exact w5, fun j hj => by rw [e (5 + j) (by omega) (by omega)]; exact w6 j hj, Nat.le_trans (pwakes_le _) w7, fun j hj => by rw [e (10 + j) (by omega) (by omega), e496]; exact w8 j hj, fun p hp => ?_⟩
  rw [e0] at hp
  obtain ⟨g1, g2⟩ := w9 p hp
  unfold pcmd parg at g1 ⊢
  rw [e (14 + 3 * p) (by omega) (by omega), e (14 + 3 * p + 1) (by omega) (by omega), e (14 + 3 * p + 2) (by omega) (by omega)]
  exact ⟨g1, g2⟩
theorem pacct_o {σ : Nat → Nat} {own i : Nat} {r : Option Nat} (ho : own < 8) (hr : ∀ c, r = some c → c < 8) (h : ∀ c j, c < 8 → j < 4 → ¬ i = 62 * c + (10 + j)) : pacct σ own r i = σ i := by
  cases r with
  | none => exact su_ne (h own 3 ho (by decide))
  | some c =>
    have hc := hr c rfl
    show (if c = own then _ else _ : Nat → Nat) i = _
    split
    · exact su_ne (h own 0 ho (by decide))
    · rw [su_ne (h c 1 hc (by decide)), su_ne (h own 2 ho (by decide))]
theorem su_le {σ : Nat → Nat} {a i : Nat} : su σ a (σ a + 1) i ≤ σ i + 1 := by
  unfold su; split
  · rename_i h; rw [h]; exact Nat.le_refl _
  · omega
theorem pacct_le {σ : Nat → Nat} {own i : Nat} {r : Option Nat} : pacct σ own r i ≤ σ i + 1 := by
  cases r with
  | none => exact su_le
  | some c =>
    show (if c = own then _ else _ : Nat → Nat) i ≤ _
    split
    · exact su_le
    · unfold su
      by_cases h1 : i = 62 * c + 11
      · subst h1
        rw [if_pos rfl]
        by_cases h2 : 62 * c + 11 = 62 * own + 12
        · omega
        · exact Nat.le_refl _
      · rw [if_neg h1]
        by_cases h2 : i = 62 * own + 12
        · subst h2; rw [if_pos rfl]; exact Nat.le_refl _
        · rw [if_neg h2]; omega
theorem pacct_own {σ : Nat → Nat} {c : Nat} : pacct σ c (some c) = su σ (62 * c + 10) (σ (62 * c + 10) + 1) := if_pos rfl
theorem pacct_oth {σ : Nat → Nat} {own c : Nat} (h : ¬ c = own) : pacct σ own (some c) = su (su σ (62 * own + 12) (σ (62 * own + 12) + 1)) (62 * c + 11) (σ (62 * c + 11) + 1) := if_neg h
theorem pruns_496 {σ : Nat → Nat} {c : Nat} (hc : c < 8) (hp : σ (62 * c + 1) < 16) (hok : pok (pcmd σ c (σ (62 * c + 1))) (parg σ c (σ (62 * c + 1)))) (hr : pcmd σ c (σ (62 * c + 1)) = 1 → σ (62 * parg σ c (σ (62 * c + 1)) + 4) ≤ 4) : pruns σ c 496 = σ 496 := by
  unfold pruns pback precv ptake
  generalize hk : pcmd σ c (σ (62 * c + 1)) = k at hok hr ⊢
  generalize hn : parg σ c (σ (62 * c + 1)) = n at hok hr ⊢
  unfold pok at hok
  split
  · split <;> rw [su_ne (by omega), su_ne (by omega)]
  · split
    · rw [su_ne (by omega), su_ne (by omega)]
    · split
      · rename_i h
        have hr := hr h
        have : n ≤ 7 := by omega
        rw [su_ne (by omega)]
        have e : su σ (62 * c + 1) (σ (62 * c + 1) + 1) (62 * n + 4) = σ (62 * n + 4) := su_ne (by omega)
        rw [e, su_ne (by omega), su_ne (by omega)]
      · split
        · rw [su_ne (by omega), su_ne (by omega), su_ne (by omega), su_ne (by omega), su_ne (by omega), su_ne (by omega), su_ne (by omega)]
        · split
          · rw [su_ne (by omega), su_ne (by omega)]
          · split
            · rw [su_ne (by omega), su_ne (by omega)]
            · rw [su_ne (by omega), su_ne (by omega)]
section MSL
variable {E : Nat × Nat × Nat} {S : xSh} {V : xV} {Q : Option Value → xSh → xV → Prop} {t : Nat} {σ : Nat → Nat}
theorem s_runner (hS : mShape S t) (hσ : mV V t σ) (hw : wf σ) {own : Nat} (ho : own < 8) : xC E mX5_runner [.ref t, .int (nI own)] S V Q ↔ Q (some (.int (rv (prunner σ own)))) S (if pst σ own = 1 then V else mW V t σ) := by
  have hS' := hS; obtain ⟨k0, r1, r2, r3, r5, r6, r7, r9, r10, r14, k1, n1, k2, n2, k3, n3, k4, n4, k5, n5, k6, n6, k7, n7, k8, n8, k9, n9⟩ := hS'; have hb := wf_b hw; have hv : ∀ i, V (t + 1) i = nI (σ i) := hσ
  have hm : mV (mW V t σ) t σ := mW_V hσ
  have hf : ∀ i, i < 8 → mW V t σ (t + 8) i = nI (pfar σ i) := fun i hi => mW_8 hi
  have hb2 : ∀ i, plent σ i < 2147483648 := plent_lt hb
  have hst : ∀ c, pst σ c < 2147483648 := fun c => by
    have : pst σ c ≤ 5 := by
      unfold pst
      repeat' split
      all_goals omega
    omega
  have loop : ∀ k i l4, i + k = 7 → (xX E mX5_runner 20 [some (.ref t), some (.int (nI own)), some (.int (rv (pbest σ own i))), some (.int (nI (i + 1))), l4] [] S (mW V t σ) Q ↔ Q (some (.int (rv (pbest σ own 7)))) S (mW V t σ)) := by
    intro k
    induction k with
    | zero =>
      intro i l4 hn
      have hi : i = 7 := by omega
      subst hi
      simp (disch := (first | assumption | exact xnl_i _ | exact xnl_r _ | exact xnl_n | exact Bool.toNat_lt _ | exact hb _ | exact hb2 _ | omega | exact Nat.le_of_ble_eq_true rfl | rfl | decide)) only [pX5_runner_0, pX5_runner_1, pX5_runner_2, pX5_runner_5, pX5_runner_6, pX5_runner_9, pX5_runner_10, pX5_runner_11, pX5_runner_12, pX5_runner_15, pX5_runner_17, pX5_runner_18, pX5_runner_19, pX5_runner_20, pX5_runner_21, pX5_runner_23, pX5_runner_26, pX5_runner_27, pX5_runner_28, pX5_runner_29, pX5_runner_31, pX5_runner_32, pX5_runner_34, pX5_runner_35, pX5_runner_37, pX5_runner_40, pX5_runner_41, pX5_runner_44, pX5_runner_45, pX5_runner_47, pX5_runner_50, pX5_runner_51, pX5_runner_53, pX5_runner_56, pX5_runner_57, pX5_runner_58, pX5_runner_61, pX5_runner_64, pX5_runner_66, pX5_runner_69, pX5_runner_70, pX5_runner_71, pX5_runner_74, pX5_runner_77, pX5_runner_78, nI_add, pk_mul, xn_sub, xn_and, xn_or, xn_xor, xn_shl, xn_shr, xn_lt, xn_le, xn_eq, xrf_some, xup_eq, xup_ne, xrow_eq, xrow_ne, Option.toList_some, Option.toList_none, List.singleton_append, List.nil_append, List.cons_append, xnl_n, xnl_i, xnl_r, Nat.zero_add, Nat.add_zero, ↓reduceIte, Nat.reduceEqDiff, Nat.reduceLeDiff, Nat.reduceAdd, Nat.reduceMul, Nat.reduceLT, Nat.one_ne_zero, eq_self, not_true_eq_false, not_false_eq_true, and_self]
    | succ k ih =>
      intro i l4 hn
      have h : ¬ 8 ≤ i + 1 := by omega
      have hm8 : (own + (i + 1)) % 8 < 8 := Nat.mod_lt _ (by decide)
      have ih2 := fun l4 => ih (i + 1) l4 (by omega)
      rw [pX5_runner_20]
      unfold pbest at ih2
      generalize hd : (own + (i + 1)) % 8 = d at hm8 ih2
      have hstd := hst d
      have hbd := hb2 d
      by_cases h1 : pst σ d = 1
      · cases hp : pbest σ own i with
        | none =>
          rw [hp, if_pos ⟨h1, fun b hb => by cases hb⟩] at ih2
          simp (disch := (first | assumption | exact xnl_i _ | exact xnl_r _ | exact xnl_n | exact Bool.toNat_lt _ | exact hb _ | exact hb2 _ | omega | exact Nat.le_of_ble_eq_true rfl | rfl | decide)) only [pX5_runner_0, pX5_runner_1, pX5_runner_2, pX5_runner_5, pX5_runner_6, pX5_runner_9, pX5_runner_10, pX5_runner_11, pX5_runner_12, pX5_runner_15, pX5_runner_17, pX5_runner_18, pX5_runner_19, pX5_runner_21, pX5_runner_23, pX5_runner_26, pX5_runner_27, pX5_runner_28, pX5_runner_29, pX5_runner_31, pX5_runner_32, pX5_runner_34, pX5_runner_35, pX5_runner_37, pX5_runner_40, pX5_runner_41, pX5_runner_44, pX5_runner_45, pX5_runner_47, pX5_runner_50, pX5_runner_51, pX5_runner_53, pX5_runner_56, pX5_runner_57, pX5_runner_58, pX5_runner_61, pX5_runner_64, pX5_runner_66, pX5_runner_69, pX5_runner_70, pX5_runner_71, pX5_runner_74, pX5_runner_77, pX5_runner_78, nI_add, pk_mul, xn_sub, xn_and, xn_or, xn_xor, xn_shl, xn_shr, xn_lt, xn_le, xn_eq, xrf_some, xup_eq, xup_ne, xrow_eq, xrow_ne, Option.toList_some, Option.toList_none, List.singleton_append, List.nil_append, List.cons_append, xnl_n, xnl_i, xnl_r, Nat.zero_add, Nat.add_zero, ↓reduceIte, Nat.reduceEqDiff, Nat.reduceLeDiff, Nat.reduceAdd, Nat.reduceMul, Nat.reduceLT, Nat.one_ne_zero, eq_self, not_true_eq_false, not_false_eq_true, and_self, h, xn_rem, hd, s_stateOf hS hm hw, h1, rv]
          exact ih2 _
        | some b =>
          have hb8 := (pbest_1 hp).1
          have hbb := hb2 b
          rw [hp] at ih2
          by_cases h2 : plent σ b < plent σ d
          · have h2' : ¬ plent σ d ≤ plent σ b := by omega
            rw [if_pos ⟨h1, fun b' hb' => by cases hb'; exact h2⟩] at ih2
            simp (disch := (first | assumption | exact xnl_i _ | exact xnl_r _ | exact xnl_n | exact Bool.toNat_lt _ | exact hb _ | exact hb2 _ | omega | exact Nat.le_of_ble_eq_true rfl | rfl | decide)) only [pX5_runner_0, pX5_runner_1, pX5_runner_2, pX5_runner_5, pX5_runner_6, pX5_runner_9, pX5_runner_10, pX5_runner_11, pX5_runner_12, pX5_runner_15, pX5_runner_17, pX5_runner_18, pX5_runner_19, pX5_runner_21, pX5_runner_23, pX5_runner_26, pX5_runner_27, pX5_runner_28, pX5_runner_29, pX5_runner_31, pX5_runner_32, pX5_runner_34, pX5_runner_35, pX5_runner_37, pX5_runner_40, pX5_runner_41, pX5_runner_44, pX5_runner_45, pX5_runner_47, pX5_runner_50, pX5_runner_51, pX5_runner_53, pX5_runner_56, pX5_runner_57, pX5_runner_58, pX5_runner_61, pX5_runner_64, pX5_runner_66, pX5_runner_69, pX5_runner_70, pX5_runner_71, pX5_runner_74, pX5_runner_77, pX5_runner_78, nI_add, pk_mul, xn_sub, xn_and, xn_or, xn_xor, xn_shl, xn_shr, xn_lt, xn_le, xn_eq, xrf_some, xup_eq, xup_ne, xrow_eq, xrow_ne, Option.toList_some, Option.toList_none, List.singleton_append, List.nil_append, List.cons_append, xnl_n, xnl_i, xnl_r, Nat.zero_add, Nat.add_zero, ↓reduceIte, Nat.reduceEqDiff, Nat.reduceLeDiff, Nat.reduceAdd, Nat.reduceMul, Nat.reduceLT, Nat.one_ne_zero, eq_self, not_true_eq_false, not_false_eq_true, and_self, h, xn_rem, hd, s_stateOf hS hm hw, h1, rv, xn_ne6, s_lent hS hm hw hf, h2, h2']
            exact ih2 _
          · have h2' : plent σ d ≤ plent σ b := by omega
            rw [if_neg (fun z => h2 (z.2 b rfl))] at ih2
            simp (disch := (first | assumption | exact xnl_i _ | exact xnl_r _ | exact xnl_n | exact Bool.toNat_lt _ | exact hb _ | exact hb2 _ | omega | exact Nat.le_of_ble_eq_true rfl | rfl | decide)) only [pX5_runner_0, pX5_runner_1, pX5_runner_2, pX5_runner_5, pX5_runner_6, pX5_runner_9, pX5_runner_10, pX5_runner_11, pX5_runner_12, pX5_runner_15, pX5_runner_17, pX5_runner_18, pX5_runner_19, pX5_runner_21, pX5_runner_23, pX5_runner_26, pX5_runner_27, pX5_runner_28, pX5_runner_29, pX5_runner_31, pX5_runner_32, pX5_runner_34, pX5_runner_35, pX5_runner_37, pX5_runner_40, pX5_runner_41, pX5_runner_44, pX5_runner_45, pX5_runner_47, pX5_runner_50, pX5_runner_51, pX5_runner_53, pX5_runner_56, pX5_runner_57, pX5_runner_58, pX5_runner_61, pX5_runner_64, pX5_runner_66, pX5_runner_69, pX5_runner_70, pX5_runner_71, pX5_runner_74, pX5_runner_77, pX5_runner_78, nI_add, pk_mul, xn_sub, xn_and, xn_or, xn_xor, xn_shl, xn_shr, xn_lt, xn_le, xn_eq, xrf_some, xup_eq, xup_ne, xrow_eq, xrow_ne, Option.toList_some, Option.toList_none, List.singleton_append, List.nil_append, List.cons_append, xnl_n, xnl_i, xnl_r, Nat.zero_add, Nat.add_zero, ↓reduceIte, Nat.reduceEqDiff, Nat.reduceLeDiff, Nat.reduceAdd, Nat.reduceMul, Nat.reduceLT, Nat.one_ne_zero, eq_self, not_true_eq_false, not_false_eq_true, and_self, h, xn_rem, hd, s_stateOf hS hm hw, h1, rv, xn_ne6, s_lent hS hm hw hf, h2, h2']
            exact ih2 _
      · rw [if_neg (fun z => h1 z.1)] at ih2
        simp (disch := (first | assumption | exact xnl_i _ | exact xnl_r _ | exact xnl_n | exact Bool.toNat_lt _ | exact hb _ | exact hb2 _ | omega | exact Nat.le_of_ble_eq_true rfl | rfl | decide)) only [pX5_runner_0, pX5_runner_1, pX5_runner_2, pX5_runner_5, pX5_runner_6, pX5_runner_9, pX5_runner_10, pX5_runner_11, pX5_runner_12, pX5_runner_15, pX5_runner_17, pX5_runner_18, pX5_runner_19, pX5_runner_21, pX5_runner_23, pX5_runner_26, pX5_runner_27, pX5_runner_28, pX5_runner_29, pX5_runner_31, pX5_runner_32, pX5_runner_34, pX5_runner_35, pX5_runner_37, pX5_runner_40, pX5_runner_41, pX5_runner_44, pX5_runner_45, pX5_runner_47, pX5_runner_50, pX5_runner_51, pX5_runner_53, pX5_runner_56, pX5_runner_57, pX5_runner_58, pX5_runner_61, pX5_runner_64, pX5_runner_66, pX5_runner_69, pX5_runner_70, pX5_runner_71, pX5_runner_74, pX5_runner_77, pX5_runner_78, nI_add, pk_mul, xn_sub, xn_and, xn_or, xn_xor, xn_shl, xn_shr, xn_lt, xn_le, xn_eq, xrf_some, xup_eq, xup_ne, xrow_eq, xrow_ne, Option.toList_some, Option.toList_none, List.singleton_append, List.nil_append, List.cons_append, xnl_n, xnl_i, xnl_r, Nat.zero_add, Nat.add_zero, ↓reduceIte, Nat.reduceEqDiff, Nat.reduceLeDiff, Nat.reduceAdd, Nat.reduceMul, Nat.reduceLT, Nat.one_ne_zero, eq_self, not_true_eq_false, not_false_eq_true, and_self, h, xn_rem, hd, s_stateOf hS hm hw, h1]
        exact ih2 _
  have hsto := hst own
  show xX E mX5_runner 0 [some (.ref t), some (.int (nI own)), none, none, none] [] S V Q ↔ _
  unfold prunner
  by_cases h1 : pst σ own = 1
  · rw [if_pos h1, if_pos h1]
    simp (disch := (first | assumption | exact xnl_i _ | exact xnl_r _ | exact xnl_n | exact Bool.toNat_lt _ | exact hb _ | exact hb2 _ | omega | exact Nat.le_of_ble_eq_true rfl | rfl | decide)) only [pX5_runner_0, pX5_runner_1, pX5_runner_2, pX5_runner_5, pX5_runner_6, pX5_runner_9, pX5_runner_10, nI_add, pk_mul, xn_sub, xn_and, xn_or, xn_xor, xn_shl, xn_shr, xn_lt, xn_le, xn_eq, xrf_some, xup_eq, xup_ne, xrow_eq, xrow_ne, Option.toList_some, Option.toList_none, List.singleton_append, List.nil_append, List.cons_append, xnl_n, xnl_i, xnl_r, Nat.zero_add, Nat.add_zero, ↓reduceIte, Nat.reduceEqDiff, Nat.reduceLeDiff, Nat.reduceAdd, Nat.reduceMul, Nat.reduceLT, Nat.one_ne_zero, eq_self, not_true_eq_false, not_false_eq_true, and_self, s_stateOf hS hσ hw, h1]
    rfl
  · rw [if_neg h1, if_neg h1]
    simp (disch := (first | assumption | exact xnl_i _ | exact xnl_r _ | exact xnl_n | exact Bool.toNat_lt _ | exact hb _ | exact hb2 _ | omega | exact Nat.le_of_ble_eq_true rfl | rfl | decide)) only [pX5_runner_0, pX5_runner_1, pX5_runner_2, pX5_runner_5, pX5_runner_6, pX5_runner_9, pX5_runner_10, pX5_runner_11, pX5_runner_12, pX5_runner_15, pX5_runner_17, pX5_runner_18, pX5_runner_19, nI_add, pk_mul, xn_sub, xn_and, xn_or, xn_xor, xn_shl, xn_shr, xn_lt, xn_le, xn_eq, xrf_some, xup_eq, xup_ne, xrow_eq, xrow_ne, Option.toList_some, Option.toList_none, List.singleton_append, List.nil_append, List.cons_append, xnl_n, xnl_i, xnl_r, Nat.zero_add, Nat.add_zero, ↓reduceIte, Nat.reduceEqDiff, Nat.reduceLeDiff, Nat.reduceAdd, Nat.reduceMul, Nat.reduceLT, Nat.one_ne_zero, eq_self, not_true_eq_false, not_false_eq_true, and_self, s_stateOf hS hσ hw, h1, s_laysWaits hS hσ hw]
    exact loop 7 0 none rfl
/-- outside the reference's state and its waits nothing changes -/
def mFr (V V' : xV) (t : Nat) : Prop := ∀ a, ¬ a = t + 1 → ¬ a = t + 7 → ¬ a = t + 8 → V' a = V a
theorem mFr_r : mFr V V t := fun _ _ _ _ => rfl
theorem mFr_t {V2 V3 : xV} (h1 : mFr V V2 t) (h2 : mFr V2 V3 t) : mFr V V3 t := fun a g1 g2 g3 => (h2 a g1 g2 g3).trans (h1 a g1 g2 g3)
theorem mFr_set {τ : Nat → Nat} : mFr V (mset V t τ) t := fun a g1 _ _ => mset_ne g1
theorem mFr_W : mFr V (mW V t σ) t := fun a _ g2 g3 => by funext i; exact mW_ne g2 g3
theorem pok_of (hw : wf σ) {c : Nat} (hc : c < 8) (hp : σ (62 * c + 1) < σ (62 * c)) : σ (62 * c + 1) < 16 ∧ pok (pcmd σ c (σ (62 * c + 1))) (parg σ c (σ (62 * c + 1))) := by
  obtain ⟨w1, w2, w3, w4, w5, w6, w7, w8, w9⟩ := hw.2.1 c hc
  exact ⟨by omega, (w9 _ hp).1⟩
theorem s_slot (hS : mShape S t) (hσ : mV V t σ) (hw : wf σ) (h6 : σ 496 < 200000) : ∃ V', mV V' t (pslot σ) ∧ mFr V V' t ∧ ∀ Q : Option Value → xSh → xV → Prop, xC E mX5_slot [.ref t] S V Q ↔ Q (some (.int (rv (pslotR σ)))) S V' := by
  have hS' := hS; obtain ⟨k0, r1, r2, r3, r5, r6, r7, r9, r10, r14, k1, n1, k2, n2, k3, n3, k4, n4, k5, n5, k6, n6, k7, n7, k8, n8, k9, n9⟩ := hS'; have hb := wf_b hw; have hv : ∀ i, V (t + 1) i = nI (σ i) := hσ
  have hw1 := wf_wakes hw
  have hb1 := wf_b hw1
  have h61 : pwakes σ 496 = σ 496 := pwakes_u (by omega)
  have ho : σ 496 % 8 < 8 := Nat.mod_lt _ (by decide)
  have hm1 : mV (mset V t (pwakes σ)) t (pwakes σ) := mset_V
  have hrun := fun (Q : Option Value → xSh → xV → Prop) => s_runner (E := E) (Q := Q) hS hm1 hw1 ho
  have hm2 : ∃ V2, mV V2 t (pwakes σ) ∧ mFr V V2 t ∧ V2 = (if pst (pwakes σ) (σ 496 % 8) = 1 then mset V t (pwakes σ) else mW (mset V t (pwakes σ)) t (pwakes σ)) := by
    refine ⟨_, ?_, ?_, rfl⟩
    · split
      · exact hm1
      · exact mW_V hm1
    · split
      · exact mFr_set
      · exact mFr_t mFr_set mFr_W
  obtain ⟨V2, hmv2, hfr2, hV2⟩ := hm2
  rw [← hV2] at hrun
  refine ⟨mset V2 t (pslot σ), mset_V, mFr_t hfr2 mFr_set, fun Q => ?_⟩
  have hself := mset_self hmv2
  show xX E mX5_slot 0 [some (.ref t), none, none] [] S V Q ↔ _
  rw [← mset_self hσ]
  simp (disch := (first | assumption | exact xnl_i _ | exact xnl_r _ | exact xnl_n | exact Bool.toNat_lt _ | exact hb _ | exact hb2 _ | omega | exact Nat.le_of_ble_eq_true rfl | rfl | decide)) only [pX5_slot_0, pX5_slot_1, pX5_slot_4, pX5_slot_5, pX5_slot_8, pX5_slot_11, pX5_slot_12, pX5_slot_14, pX5_slot_15, pX5_slot_16, pX5_slot_17, pX5_slot_18, pX5_slot_21, nI_add, pk_mul, xn_sub, xn_and, xn_or, xn_xor, xn_shl, xn_shr, xn_lt, xn_le, xn_eq, xrf_some, xup_eq, xup_ne, xrow_eq, xrow_ne, Option.toList_some, Option.toList_none, List.singleton_append, List.nil_append, List.cons_append, xnl_n, xnl_i, xnl_r, Nat.zero_add, Nat.add_zero, ↓reduceIte, Nat.reduceEqDiff, Nat.reduceLeDiff, Nat.reduceAdd, Nat.reduceMul, Nat.reduceLT, Nat.one_ne_zero, eq_self, not_true_eq_false, not_false_eq_true, and_self, k0, r1, r2, r3, r5, r6, r7, r9, r10, r14, s_wakes hS hb, mset_1, h61, xn_rem, hrun]
  rw [← hself]
  unfold pslot pslotR
  generalize hown : σ 496 % 8 = own at ho ⊢
  generalize hτ : pwakes σ = τ at hw1 hb1 h61 ⊢
  have hb2 := hb1
  have hB := hw1.1
  cases hr : prunner τ own with
  | none =>
    have hq := hB (62 * own + 13)
    simp (disch := (first | assumption | exact xnl_i _ | exact xnl_r _ | exact xnl_n | exact Bool.toNat_lt _ | exact hb _ | exact hb2 _ | omega | exact Nat.le_of_ble_eq_true rfl | rfl | decide)) only [pX5_slot_0, pX5_slot_1, pX5_slot_4, pX5_slot_5, pX5_slot_8, pX5_slot_11, pX5_slot_12, pX5_slot_14, pX5_slot_15, pX5_slot_16, pX5_slot_17, pX5_slot_18, pX5_slot_21, pX5_slot_22, pX5_slot_23, pX5_slot_25, pX5_slot_28, pX5_slot_29, pX5_slot_30, pX5_slot_32, pX5_slot_33, pX5_slot_34, pX5_slot_36, pX5_slot_39, pX5_slot_40, pX5_slot_41, pX5_slot_44, pX5_slot_47, pX5_slot_48, pX5_slot_49, pX5_slot_52, pX5_slot_53, pX5_slot_54, pX5_slot_56, pX5_slot_57, pX5_slot_58, pX5_slot_60, pX5_slot_63, pX5_slot_64, pX5_slot_65, pX5_slot_68, pX5_slot_71, pX5_slot_72, pX5_slot_73, pX5_slot_75, pX5_slot_76, pX5_slot_77, pX5_slot_79, pX5_slot_82, pX5_slot_83, pX5_slot_84, pX5_slot_87, pX5_slot_88, pX5_slot_89, pX5_slot_91, pX5_slot_92, pX5_slot_93, pX5_slot_95, pX5_slot_98, pX5_slot_99, pX5_slot_100, pX5_slot_103, pX5_slot_104, pX5_slot_106, pX5_slot_109, pX5_slot_110, pX5_slot_111, pX5_slot_114, pX5_slot_115, pX5_slot_118, pX5_slot_121, pX5_slot_122, pX5_slot_123, pX5_slot_124, pX5_slot_125, pX5_slot_126, pX5_slot_127, nI_add, pk_mul, xn_sub, xn_and, xn_or, xn_xor, xn_shl, xn_shr, xn_lt, xn_le, xn_eq, xrf_some, xup_eq, xup_ne, xrow_eq, xrow_ne, Option.toList_some, Option.toList_none, List.singleton_append, List.nil_append, List.cons_append, xnl_n, xnl_i, xnl_r, Nat.zero_add, Nat.add_zero, ↓reduceIte, Nat.reduceEqDiff, Nat.reduceLeDiff, Nat.reduceAdd, Nat.reduceMul, Nat.reduceLT, Nat.one_ne_zero, eq_self, not_true_eq_false, not_false_eq_true, and_self, k0, r1, r2, r3, r5, r6, r7, r9, r10, r14, rv, s_getm hS, s_laym hS, mset_1, mset_up, pacct, su_ne, h61, hV2, mset_mset]
  | some c =>
    obtain ⟨hc, h1⟩ := prunner_1 ho hr
    obtain ⟨p1, p2, p3, p4, p5⟩ := pst_1 h1
    obtain ⟨hp, hok⟩ := pok_of hw1 hc p1
    obtain ⟨w1, w2, w3, w4, w5, w6, w7, w8, w9⟩ := hw1.2.1 c hc
    have hrecv : pcmd τ c (τ (62 * c + 1)) = 1 → τ (62 * parg τ c (τ (62 * c + 1)) + 4) ≤ 4 := fun e => by
      have : parg τ c (τ (62 * c + 1)) < 8 := by unfold pok at hok; omega
      exact (hw1.2.1 _ this).2.2.2.2.1
    have hrs : ∀ d, some c = some d → d < 8 := fun d hd => by cases hd; exact hc
    have eo : ∀ i, (∀ c j, c < 8 → j < 4 → ¬ i = 62 * c + (10 + j)) → pacct τ own (some c) i = τ i := fun i hi => pacct_o ho hrs hi
    have el : ∀ i, pacct τ own (some c) i ≤ 200001 := fun i => Nat.le_trans pacct_le (Nat.succ_le_succ (hB i))
    have e1 : pacct τ own (some c) (62 * c + 1) = τ (62 * c + 1) := eo _ (fun _ _ _ _ => by omega)
    have ec : pcmd (pacct τ own (some c)) c (τ (62 * c + 1)) = pcmd τ c (τ (62 * c + 1)) := eo (62 * c + (14 + 3 * τ (62 * c + 1))) (fun d _ _ _ => by rcases Nat.lt_trichotomy d c with h | h | h <;> omega)
    have ea : parg (pacct τ own (some c)) c (τ (62 * c + 1)) = parg τ c (τ (62 * c + 1)) := eo (62 * c + (14 + 3 * τ (62 * c + 1) + 1)) (fun d _ _ _ => by rcases Nat.lt_trichotomy d c with h | h | h <;> omega)
    have hrn := fun (Q : Option Value → xSh → xV → Prop) => s_runs (E := E) (V := V2) (Q := Q) hS el hc (by rw [e1]; exact hp) (by rw [e1, ec, ea]; exact hok) (by rw [e1, ec, ea, eo _ (fun _ _ _ _ => by omega)]; exact hrecv) (by rw [e1, ec, eo _ (fun _ _ _ _ => by omega)]; exact p4)
    have hrx : pcmd τ c (τ (62 * c + 1)) = 1 → pacct τ own (some c) (62 * parg τ c (τ (62 * c + 1)) + 4) ≤ 4 := fun z => by
      rw [eo _ (fun _ _ _ _ => by omega)]; exact hrecv z
    have e496 : pruns (pacct τ own (some c)) c 496 = τ 496 := by
      rw [pruns_496 hc (by rw [e1]; exact hp) (by rw [e1, ec, ea]; exact hok) (by rw [e1, ec, ea]; exact hrx)]
      exact eo _ (fun _ _ _ _ => by omega)
    by_cases hco : c = own
    · subst hco
      have hq := hB (62 * c + 10)
      have epa : pacct τ c (some c) = su τ (62 * c + 10) (τ (62 * c + 10) + 1) := pacct_own
      rw [epa] at hrn e496
      simp (disch := (first | assumption | exact xnl_i _ | exact xnl_r _ | exact xnl_n | exact Bool.toNat_lt _ | exact hb _ | exact hb2 _ | omega | exact Nat.le_of_ble_eq_true rfl | rfl | decide)) only [pX5_slot_0, pX5_slot_1, pX5_slot_4, pX5_slot_5, pX5_slot_8, pX5_slot_11, pX5_slot_12, pX5_slot_14, pX5_slot_15, pX5_slot_16, pX5_slot_17, pX5_slot_18, pX5_slot_21, pX5_slot_22, pX5_slot_23, pX5_slot_25, pX5_slot_28, pX5_slot_29, pX5_slot_30, pX5_slot_32, pX5_slot_33, pX5_slot_34, pX5_slot_36, pX5_slot_39, pX5_slot_40, pX5_slot_41, pX5_slot_44, pX5_slot_47, pX5_slot_48, pX5_slot_49, pX5_slot_52, pX5_slot_53, pX5_slot_54, pX5_slot_56, pX5_slot_57, pX5_slot_58, pX5_slot_60, pX5_slot_63, pX5_slot_64, pX5_slot_65, pX5_slot_68, pX5_slot_71, pX5_slot_72, pX5_slot_73, pX5_slot_75, pX5_slot_76, pX5_slot_77, pX5_slot_79, pX5_slot_82, pX5_slot_83, pX5_slot_84, pX5_slot_87, pX5_slot_88, pX5_slot_89, pX5_slot_91, pX5_slot_92, pX5_slot_93, pX5_slot_95, pX5_slot_98, pX5_slot_99, pX5_slot_100, pX5_slot_103, pX5_slot_104, pX5_slot_106, pX5_slot_109, pX5_slot_110, pX5_slot_111, pX5_slot_114, pX5_slot_115, pX5_slot_118, pX5_slot_121, pX5_slot_122, pX5_slot_123, pX5_slot_124, pX5_slot_125, pX5_slot_126, pX5_slot_127, nI_add, pk_mul, xn_sub, xn_and, xn_or, xn_xor, xn_shl, xn_shr, xn_lt, xn_le, xn_eq, xrf_some, xup_eq, xup_ne, xrow_eq, xrow_ne, Option.toList_some, Option.toList_none, List.singleton_append, List.nil_append, List.cons_append, xnl_n, xnl_i, xnl_r, Nat.zero_add, Nat.add_zero, ↓reduceIte, Nat.reduceEqDiff, Nat.reduceLeDiff, Nat.reduceAdd, Nat.reduceMul, Nat.reduceLT, Nat.one_ne_zero, eq_self, not_true_eq_false, not_false_eq_true, and_self, k0, r1, r2, r3, r5, r6, r7, r9, r10, r14, rv, s_getm hS, s_laym hS, mset_1, mset_up, xn_ne6, hrn, e496, h61, epa, mset_mset]
    · have hco' : ¬ own = c := fun z => hco z.symm
      have hq := hB (62 * own + 12)
      have hq2 := hB (62 * c + 11)
      have epa : pacct τ own (some c) = su (su τ (62 * own + 12) (τ (62 * own + 12) + 1)) (62 * c + 11) (τ (62 * c + 11) + 1) := pacct_oth hco
      rw [epa] at hrn e496
      simp (disch := (first | assumption | exact xnl_i _ | exact xnl_r _ | exact xnl_n | exact Bool.toNat_lt _ | exact hb _ | exact hb2 _ | omega | exact Nat.le_of_ble_eq_true rfl | rfl | decide)) only [pX5_slot_0, pX5_slot_1, pX5_slot_4, pX5_slot_5, pX5_slot_8, pX5_slot_11, pX5_slot_12, pX5_slot_14, pX5_slot_15, pX5_slot_16, pX5_slot_17, pX5_slot_18, pX5_slot_21, pX5_slot_22, pX5_slot_23, pX5_slot_25, pX5_slot_28, pX5_slot_29, pX5_slot_30, pX5_slot_32, pX5_slot_33, pX5_slot_34, pX5_slot_36, pX5_slot_39, pX5_slot_40, pX5_slot_41, pX5_slot_44, pX5_slot_47, pX5_slot_48, pX5_slot_49, pX5_slot_52, pX5_slot_53, pX5_slot_54, pX5_slot_56, pX5_slot_57, pX5_slot_58, pX5_slot_60, pX5_slot_63, pX5_slot_64, pX5_slot_65, pX5_slot_68, pX5_slot_71, pX5_slot_72, pX5_slot_73, pX5_slot_75, pX5_slot_76, pX5_slot_77, pX5_slot_79, pX5_slot_82, pX5_slot_83, pX5_slot_84, pX5_slot_87, pX5_slot_88, pX5_slot_89, pX5_slot_91, pX5_slot_92, pX5_slot_93, pX5_slot_95, pX5_slot_98, pX5_slot_99, pX5_slot_100, pX5_slot_103, pX5_slot_104, pX5_slot_106, pX5_slot_109, pX5_slot_110, pX5_slot_111, pX5_slot_114, pX5_slot_115, pX5_slot_118, pX5_slot_121, pX5_slot_122, pX5_slot_123, pX5_slot_124, pX5_slot_125, pX5_slot_126, pX5_slot_127, nI_add, pk_mul, xn_sub, xn_and, xn_or, xn_xor, xn_shl, xn_shr, xn_lt, xn_le, xn_eq, xrf_some, xup_eq, xup_ne, xrow_eq, xrow_ne, Option.toList_some, Option.toList_none, List.singleton_append, List.nil_append, List.cons_append, xnl_n, xnl_i, xnl_r, Nat.zero_add, Nat.add_zero, ↓reduceIte, Nat.reduceEqDiff, Nat.reduceLeDiff, Nat.reduceAdd, Nat.reduceMul, Nat.reduceLT, Nat.one_ne_zero, eq_self, not_true_eq_false, not_false_eq_true, and_self, k0, r1, r2, r3, r5, r6, r7, r9, r10, r14, rv, s_getm hS, s_laym hS, mset_1, mset_up, xn_ne6, hrn, e496, h61, epa, hco, su_ne, mset_mset]
end MSL
