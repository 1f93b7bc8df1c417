/-! ===== the reference: fault and read ===== -/
def pclear (σ : Nat → Nat) (c : Nat) : Nat → Nat := fun i => if i = 62 * c ∨ i = 62 * c + 1 ∨ i = 62 * c + 2 ∨ i = 62 * c + 9 ∨ (62 * c + 14 ≤ i ∧ i < 62 * c + 62) then 0 else σ i
def ploadN (σ : Nat → Nat) (c : Nat) (f : Nat → Nat × Nat) (m : Nat) : Nat → Nat := itN (fun i τ => pappend τ c (f i).1 (f i).2) m (pclear σ c)
def pfault (g : pG) : pR := (rv (pparse g).1, g)
def pread (g : pG) : pR := match (pparse g).1 with
  | none => (nI (pch g 0 - 48), gput (gset (grec g) (ploadN (gσ g) (pch g 0 - 48) (pparse g).2.2 (pparse g).2.1)) 0 (gpd g))
  | some _ => (-3, g)
theorem prd_le {g : pG} (hG : gG g) : ∀ n a m f, a ≤ 73 → ∀ q, (prd g n a m f).1 = some q → q ≤ 73 := by
  intro n
  induction n with
  | zero => intro a m f ha q h; cases h; exact ha
  | succ n ih =>
    intro a m f ha q h
    rw [prd_s] at h
    cases hk : pkd (pch g a) with
    | none => rw [hk] at h; cases h; exact ha
    | some k =>
      rw [hk] at h
      obtain ⟨hk6, hc0⟩ := pkd_le hk
      have hae := pch_end hG hc0
      have he := pnum_end hG (k := k) (a := a + 1) (by omega)
      have h72 := hG.2.2.2.2.1
      dsimp only at h
      split at h
      · unfold ptail at h
        split at h
        · split at h
          · exact ih _ _ _ (by omega) q h
          · cases h; exact he
        · cases h
      · cases h; exact he
theorem pparse_le {g : pG} (hG : gG g) {q : Nat} (h : (pparse g).1 = some q) : q ≤ 73 := by
  unfold pparse at h
  split at h
  · split at h
    · split at h
      · exact prd_le hG 16 2 0 _ (by decide) q h
      · cases h
    · cases h; decide
  · cases h; decide
theorem xn_ne6' {c : Nat} (h : c < 2147483648) : ¬ nI c = -6 := by
  intro e
  have := congrArg Int32.toInt e
  rw [xn_toInt h, show (-6 : Int32).toInt = -6 by decide] at this
  omega
theorem ploadN_0 {σ : Nat → Nat} {c : Nat} {f : Nat → Nat × Nat} : ∀ m, ploadN σ c f m (62 * c) = m := by
  intro m
  induction m with
  | zero => exact if_pos (Or.inl rfl)
  | succ m ih =>
    have e : ploadN σ c f (m + 1) = pappend (ploadN σ c f m) c (f m).1 (f m).2 := rfl
    rw [e]
    unfold pappend
    rw [su_eq, ih]
section MRE
variable {E : Nat × Nat × Nat} {S : xSh} {V V' W : xV} {Q : Option Value → xSh → xV → Prop} {t : Nat} {g : pG}
theorem m_fault (hR : mRep S V t g) (hG : gG g) (hQ : ∀ V', mRep S V' t (pfault g).2 → mOut V V' t → Q (some (.int (pfault g).1)) S V') : xC E mX5_fault [.ref t] S V Q := by
  have hR1 : mRep S (xup V t 0 (nI 0)) t g := mRep_up hR (by decide) (by decide); have ho1 : mOut V (xup V t 0 (nI 0)) t := mOut_up (by omega); have hS := hR1.1; obtain ⟨k0, r1, r2, r3, r5, r6, r7, r9, r10, r14, k1, n1, k2, n2, k3, n3, k4, n4, k5, n5, k6, n6, k7, n7, k8, n8, k9, n9⟩ := hS; have hS := hR1.1; have hv : ∀ i, V (t + 1) i = nI (gσ g i) := hR.2.1; have hw := gs_wf hG.1; have hb := wf_b hw; have hv1 : mV (xup V t 0 (nI 0)) t (gσ g) := hR1.2.1
  show xX E mX5_fault 0 [some (.ref t)] [] S V Q
  simp (disch := (first | assumption | exact xnl_i _ | exact xnl_r _ | exact xnl_n | exact Bool.toNat_lt _ | exact hb _ | exact hb2 _ | omega | exact Nat.le_of_ble_eq_true rfl | rfl | decide)) only [pX5_fault_0, pX5_fault_1, pX5_fault_2, pX5_fault_5, nI_add, pk_mul, xn_sub, xn_and, xn_or, xn_xor, xn_shl, xn_shr, xn_lt, xn_le, xn_eq, xrf_some, xup_eq, xup_ne, xrow_eq, xrow_ne, Option.toList_some, Option.toList_none, List.singleton_append, List.nil_append, List.cons_append, xnl_n, xnl_i, xnl_r, Nat.zero_add, Nat.add_zero, ↓reduceIte, Nat.reduceEqDiff, Nat.reduceLeDiff, Nat.reduceAdd, Nat.reduceMul, Nat.reduceLT, Nat.one_ne_zero, eq_self, not_true_eq_false, not_false_eq_true, and_self, k0, r1, r2, r3, r5, r6, r7, r9, r10, r14]
  rw [pX5_fault_6 k0 (by decide)]
  refine s_reads hR1 hG (fun W hF _ => ?_)
  simp (disch := (first | assumption | exact xnl_i _ | exact xnl_r _ | exact xnl_n | exact Bool.toNat_lt _ | exact hb _ | exact hb2 _ | omega | exact Nat.le_of_ble_eq_true rfl | rfl | decide)) only [pX5_fault_9, nI_add, pk_mul, xn_sub, xn_and, xn_or, xn_xor, xn_shl, xn_shr, xn_lt, xn_le, xn_eq, xrf_some, xup_eq, xup_ne, xrow_eq, xrow_ne, Option.toList_some, Option.toList_none, List.singleton_append, List.nil_append, List.cons_append, xnl_n, xnl_i, xnl_r, Nat.zero_add, Nat.add_zero, ↓reduceIte, Nat.reduceEqDiff, Nat.reduceLeDiff, Nat.reduceAdd, Nat.reduceMul, Nat.reduceLT, Nat.one_ne_zero, eq_self, not_true_eq_false, not_false_eq_true, and_self]
  exact hQ W (pF_rep hF hR1) (mOut_t ho1 (pF_out hF))
theorem mRep_len {n : Nat} (h : mRep S V t g) (hn : n ≤ gln g) : mRep S (xup V t 8 (nI n)) t (gput g n (gpd g)) := by
  obtain ⟨g1, g2, g3, g4, g5, g6, g7, g8⟩ := h
  have e : ∀ a, ¬ a = t → xup V t 8 (nI n) a = V a := fun a ha => by funext i; exact xup_ne (by omega)
  refine ⟨g1, fun i => by rw [e _ (by omega)]; exact g2 i, by rw [xup_ne (by omega)]; exact g3, by rw [e (t + 3) (by omega)]; exact g4, by rw [e (t + 5) (by omega)]; exact g5, by rw [e (t + 4) (by omega)]; exact g6, xup_eq, fun j hj => ?_⟩
  have hj : j < n := hj
  rw [e (t + 6) (by omega)]; exact g8 j (by omega)
theorem m_read (hR : mRep S V t g) (hG : gG g) (hQ : ∀ V', mRep S V' t (pread g).2 → mOut V V' t → Q (some (.int (pread g).1)) S V') : xC E mX5_read [.ref t] S V Q := by
  have hR1 : mRep S (xup V t 0 (nI 0)) t g := mRep_up hR (by decide) (by decide); have ho1 : mOut V (xup V t 0 (nI 0)) t := mOut_up (by omega); have hS := hR1.1; obtain ⟨k0, r1, r2, r3, r5, r6, r7, r9, r10, r14, k1, n1, k2, n2, k3, n3, k4, n4, k5, n5, k6, n6, k7, n7, k8, n8, k9, n9⟩ := hS; have hS := hR1.1; have hv : ∀ i, V (t + 1) i = nI (gσ g i) := hR.2.1; have hw := gs_wf hG.1; have hb := wf_b hw; have hv1 : mV (xup V t 0 (nI 0)) t (gσ g) := hR1.2.1
  have hb2 : ∀ i, pch g i < 2147483648 := fun i => Nat.lt_of_le_of_lt (pch_lt hG i) (by decide)
  show xX E mX5_read 0 [some (.ref t), none] [] S V Q
  simp (disch := (first | assumption | exact xnl_i _ | exact xnl_r _ | exact xnl_n | exact Bool.toNat_lt _ | exact hb _ | exact hb2 _ | omega | exact Nat.le_of_ble_eq_true rfl | rfl | decide)) only [pX5_read_0, pX5_read_1, pX5_read_2, pX5_read_5, nI_add, pk_mul, xn_sub, xn_and, xn_or, xn_xor, xn_shl, xn_shr, xn_lt, xn_le, xn_eq, xrf_some, xup_eq, xup_ne, xrow_eq, xrow_ne, Option.toList_some, Option.toList_none, List.singleton_append, List.nil_append, List.cons_append, xnl_n, xnl_i, xnl_r, Nat.zero_add, Nat.add_zero, ↓reduceIte, Nat.reduceEqDiff, Nat.reduceLeDiff, Nat.reduceAdd, Nat.reduceMul, Nat.reduceLT, Nat.one_ne_zero, eq_self, not_true_eq_false, not_false_eq_true, and_self, k0, r1, r2, r3, r5, r6, r7, r9, r10, r14]
  rw [pX5_read_6 k0 (by decide)]
  refine s_reads hR1 hG (fun W hF hread => ?_)
  have hRW := pF_rep hF hR1
  unfold pread at hQ
  cases hp : (pparse g).1 with
  | some q =>
    rw [hp] at hQ
    have hq := pparse_le hG hp
    have hne : ¬ nI q = -6 := xn_ne6' (by omega)
    simp (disch := (first | assumption | exact xnl_i _ | exact xnl_r _ | exact xnl_n | exact Bool.toNat_lt _ | exact hb _ | exact hb2 _ | omega | exact Nat.le_of_ble_eq_true rfl | rfl | decide)) only [pX5_read_9, pX5_read_11, pX5_read_14, pX5_read_16, nI_add, pk_mul, xn_sub, xn_and, xn_or, xn_xor, xn_shl, xn_shr, xn_lt, xn_le, xn_eq, xrf_some, xup_eq, xup_ne, xrow_eq, xrow_ne, Option.toList_some, Option.toList_none, List.singleton_append, List.nil_append, List.cons_append, xnl_n, xnl_i, xnl_r, Nat.zero_add, Nat.add_zero, ↓reduceIte, Nat.reduceEqDiff, Nat.reduceLeDiff, Nat.reduceAdd, Nat.reduceMul, Nat.reduceLT, Nat.one_ne_zero, eq_self, not_true_eq_false, not_false_eq_true, and_self, rv, hne]
    exact hQ W hRW (mOut_t ho1 (pF_out hF))
  | none =>
    rw [hp] at hQ
    dsimp only at hQ
    obtain ⟨h13, h15, hm16, hcodes⟩ := hread rfl hp
    generalize hm : (pparse g).2.1 = m at hQ h15 hm16 hcodes
    generalize hf : (pparse g).2.2 = f at hQ hcodes
    have hc8 : pch g 0 - 48 < 8 := by
      unfold pparse at hp
      split at hp
      · omega
      · cases hp
    generalize hc : pch g 0 - 48 = c at hQ h13 hc8
    obtain ⟨W2, hRW2, hoW2, ⟨hfr, hfr0⟩, hrec⟩ := m_records2 (E := E) hRW hG
    rw [← mset_self hRW2.2.1] at hrec
    have hrec : ∀ Q : Option Value → xSh → xV → Prop, xC E mX5_records [.ref t] S W Q ↔ Q none S (mset W2 t (gσ g)) := hrec
    have q13 : ∀ τ, mset W2 t τ t 13 = nI c := fun τ => by rw [mset_ne (by omega), hfr0 13 (by decide)]; exact h13
    have q15 : ∀ τ, mset W2 t τ t 15 = nI m := fun τ => by rw [mset_ne (by omega), hfr0 15 (by decide)]; exact h15
    have q9 : ∀ τ i, i < m → mset W2 t τ (t + 9) (2 * i) = nI (f i).1 ∧ mset W2 t τ (t + 9) (2 * i + 1) = nI (f i).2 := fun τ i hi => by rw [mset_ne (by omega), hfr (t + 9) (by omega) (by omega)]; exact hcodes i hi
    -- the commands laid
    have loop2 : ∀ k i, i + k = m → xX E mX5_read 91 [some (.ref t), some (.int (nI i))] [] S (mset W2 t (ploadN (gσ g) c f i)) Q := by
      intro k
      induction k with
      | zero =>
        intro i hn
        have hi : i = m := by omega
        subst hi
        have hq13 := q13 (ploadN (gσ g) c f i)
        have hq15 := q15 (ploadN (gσ g) c f i)
        have hq13' : xup (mset W2 t (ploadN (gσ g) c f i)) t 8 (nI 0) t 13 = nI c := by rw [xup_ne (by omega)]; exact hq13
        simp (disch := (first | assumption | exact xnl_i _ | exact xnl_r _ | exact xnl_n | exact Bool.toNat_lt _ | exact hb _ | exact hb2 _ | omega | exact Nat.le_of_ble_eq_true rfl | rfl | decide)) only [pX5_read_91, pX5_read_92, pX5_read_93, pX5_read_96, pX5_read_131, pX5_read_132, pX5_read_133, pX5_read_136, pX5_read_137, pX5_read_140, nI_add, pk_mul, xn_sub, xn_and, xn_or, xn_xor, xn_shl, xn_shr, xn_lt, xn_le, xn_eq, xrf_some, xup_eq, xup_ne, xrow_eq, xrow_ne, Option.toList_some, Option.toList_none, List.singleton_append, List.nil_append, List.cons_append, xnl_n, xnl_i, xnl_r, Nat.zero_add, Nat.add_zero, ↓reduceIte, Nat.reduceEqDiff, Nat.reduceLeDiff, Nat.reduceAdd, Nat.reduceMul, Nat.reduceLT, Nat.one_ne_zero, eq_self, not_true_eq_false, not_false_eq_true, and_self, Nat.le_refl, k0, r1, r2, r3, r5, r6, r7, r9, r10, r14, hq13, hq15]
        exact hQ _ (mRep_len (mRep_set hRW2) (Nat.zero_le _)) (mOut_t ho1 (mOut_t (pF_out hF) (mOut_t hoW2 (mOut_t mOut_set (mOut_up (by omega))))))
      | succ k ih =>
        intro i hn
        have hi : ¬ m ≤ i := by omega
        have ih2 := ih (i + 1) (by omega)
        have hq13 := q13 (ploadN (gσ g) c f i)
        have hq15 := q15 (ploadN (gσ g) c f i)
        obtain ⟨hq9, hq9'⟩ := q9 (ploadN (gσ g) c f i) i (by omega)
        have h16 : ploadN (gσ g) c f i (62 * c) < 16 := by rw [ploadN_0]; omega
        rw [pX5_read_91]
        simp (disch := (first | assumption | exact xnl_i _ | exact xnl_r _ | exact xnl_n | exact Bool.toNat_lt _ | exact hb _ | exact hb2 _ | omega | exact Nat.le_of_ble_eq_true rfl | rfl | decide)) only [pX5_read_92, pX5_read_93, pX5_read_96, pX5_read_99, pX5_read_100, pX5_read_101, pX5_read_104, pX5_read_105, pX5_read_108, pX5_read_109, pX5_read_110, pX5_read_111, pX5_read_112, pX5_read_113, pX5_read_116, pX5_read_117, pX5_read_118, pX5_read_119, pX5_read_120, pX5_read_121, pX5_read_122, pX5_read_125, pX5_read_128, nI_add, pk_mul, xn_sub, xn_and, xn_or, xn_xor, xn_shl, xn_shr, xn_lt, xn_le, xn_eq, xrf_some, xup_eq, xup_ne, xrow_eq, xrow_ne, Option.toList_some, Option.toList_none, List.singleton_append, List.nil_append, List.cons_append, xnl_n, xnl_i, xnl_r, Nat.zero_add, Nat.add_zero, ↓reduceIte, Nat.reduceEqDiff, Nat.reduceLeDiff, Nat.reduceAdd, Nat.reduceMul, Nat.reduceLT, Nat.one_ne_zero, eq_self, not_true_eq_false, not_false_eq_true, and_self, k0, r1, r2, r3, r5, r6, r7, r9, r10, r14, hi, hq13, hq15, hq9, hq9', s_adds hS]
        exact ih2
    -- the cells laid down
    have loop1 : ∀ k i τ, i + k = 48 → τ = (fun j => if 62 * c + 14 ≤ j ∧ j < 62 * c + 14 + i then 0 else gσ g j) → xX E mX5_read 23 [some (.ref t), some (.int (nI i))] [] S (mset W2 t τ) Q := by
      intro k
      induction k with
      | zero =>
        intro i τ hn hτ
        have hi : i = 48 := by omega
        subst hi
        have hq13 := q13
        have hl := loop2 m 0 (by omega)
        have e : su (su (su (su τ (62 * c) 0) (62 * c + 1) 0) (62 * c + 2) 0) (62 * c + 9) 0 = ploadN (gσ g) c f 0 := by
          rw [hτ]
          funext j
          show _ = pclear (gσ g) c j
          unfold su pclear
          by_cases h9 : j = 62 * c + 9
          · rw [if_pos h9, if_pos (by omega)]
          · rw [if_neg h9]
            by_cases h2 : j = 62 * c + 2
            · rw [if_pos h2, if_pos (by omega)]
            · rw [if_neg h2]
              by_cases h1 : j = 62 * c + 1
              · rw [if_pos h1, if_pos (by omega)]
              · rw [if_neg h1]
                by_cases h0 : j = 62 * c
                · rw [if_pos h0, if_pos (by omega)]
                · rw [if_neg h0]
                  dsimp only
                  by_cases h14 : 62 * c + 14 ≤ j ∧ j < 62 * c + 14 + 48
                  · rw [if_pos h14, if_pos (by omega)]
                  · rw [if_neg h14, if_neg (by omega)]
        rw [← e] at hl
        simp (disch := (first | assumption | exact xnl_i _ | exact xnl_r _ | exact xnl_n | exact Bool.toNat_lt _ | exact hb _ | exact hb2 _ | omega | exact Nat.le_of_ble_eq_true rfl | rfl | decide)) only [pX5_read_23, pX5_read_24, pX5_read_26, pX5_read_48, pX5_read_49, pX5_read_50, pX5_read_53, pX5_read_54, pX5_read_55, pX5_read_58, pX5_read_59, pX5_read_60, pX5_read_63, pX5_read_64, pX5_read_65, pX5_read_68, pX5_read_69, pX5_read_70, pX5_read_73, pX5_read_74, pX5_read_75, pX5_read_78, pX5_read_79, pX5_read_80, pX5_read_83, pX5_read_85, pX5_read_86, pX5_read_89, pX5_read_90, nI_add, pk_mul, xn_sub, xn_and, xn_or, xn_xor, xn_shl, xn_shr, xn_lt, xn_le, xn_eq, xrf_some, xup_eq, xup_ne, xrow_eq, xrow_ne, Option.toList_some, Option.toList_none, List.singleton_append, List.nil_append, List.cons_append, xnl_n, xnl_i, xnl_r, Nat.zero_add, Nat.add_zero, ↓reduceIte, Nat.reduceEqDiff, Nat.reduceLeDiff, Nat.reduceAdd, Nat.reduceMul, Nat.reduceLT, Nat.one_ne_zero, eq_self, not_true_eq_false, not_false_eq_true, and_self, k0, r1, r2, r3, r5, r6, r7, r9, r10, r14, q13, s_laym hS]
        exact hl
      | succ k ih =>
        intro i τ hn hτ
        have hi : ¬ 48 ≤ i := by omega
        have ih2 := ih (i + 1) (su τ (62 * c + (14 + i)) 0) (by omega) (by
          rw [hτ]; funext j; unfold su
          by_cases h1 : j = 62 * c + (14 + i)
          · rw [if_pos h1, if_pos (by omega)]
          · rw [if_neg h1]
            dsimp only
            by_cases h2 : 62 * c + 14 ≤ j ∧ j < 62 * c + 14 + i
            · rw [if_pos h2, if_pos (by omega)]
            · rw [if_neg h2, if_neg (by omega)])
        rw [pX5_read_23]
        simp (disch := (first | assumption | exact xnl_i _ | exact xnl_r _ | exact xnl_n | exact Bool.toNat_lt _ | exact hb _ | exact hb2 _ | omega | exact Nat.le_of_ble_eq_true rfl | rfl | decide)) only [pX5_read_24, pX5_read_26, pX5_read_29, pX5_read_30, pX5_read_31, pX5_read_34, pX5_read_36, pX5_read_37, pX5_read_38, pX5_read_39, pX5_read_42, pX5_read_45, nI_add, pk_mul, xn_sub, xn_and, xn_or, xn_xor, xn_shl, xn_shr, xn_lt, xn_le, xn_eq, xrf_some, xup_eq, xup_ne, xrow_eq, xrow_ne, Option.toList_some, Option.toList_none, List.singleton_append, List.nil_append, List.cons_append, xnl_n, xnl_i, xnl_r, Nat.zero_add, Nat.add_zero, ↓reduceIte, Nat.reduceEqDiff, Nat.reduceLeDiff, Nat.reduceAdd, Nat.reduceMul, Nat.reduceLT, Nat.one_ne_zero, eq_self, not_true_eq_false, not_false_eq_true, and_self, k0, r1, r2, r3, r5, r6, r7, r9, r10, r14, hi, q13, s_laym hS]
        exact ih2
    simp (disch := (first | assumption | exact xnl_i _ | exact xnl_r _ | exact xnl_n | exact Bool.toNat_lt _ | exact hb _ | exact hb2 _ | omega | exact Nat.le_of_ble_eq_true rfl | rfl | decide)) only [pX5_read_9, pX5_read_11, pX5_read_14, pX5_read_16, pX5_read_17, pX5_read_18, pX5_read_21, pX5_read_22, nI_add, pk_mul, xn_sub, xn_and, xn_or, xn_xor, xn_shl, xn_shr, xn_lt, xn_le, xn_eq, xrf_some, xup_eq, xup_ne, xrow_eq, xrow_ne, Option.toList_some, Option.toList_none, List.singleton_append, List.nil_append, List.cons_append, xnl_n, xnl_i, xnl_r, Nat.zero_add, Nat.add_zero, ↓reduceIte, Nat.reduceEqDiff, Nat.reduceLeDiff, Nat.reduceAdd, Nat.reduceMul, Nat.reduceLT, Nat.one_ne_zero, eq_self, not_true_eq_false, not_false_eq_true, and_self, rv, k0, r1, r2, r3, r5, r6, r7, r9, r10, r14, hrec]
    exact loop1 48 0 _ rfl (by funext j; rw [if_neg (by omega)])
end MRE
