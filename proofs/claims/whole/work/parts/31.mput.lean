/-! ===== the reference: put ===== -/
theorem xl_of (u : Int64) : ∃ n, n < 2 ^ 64 ∧ u = lN n := ⟨u.toBitVec.toNat, u.toBitVec.isLt, by
  apply Int64.toBitVec_inj.mp
  show u.toBitVec = BitVec.ofNat 64 u.toBitVec.toNat
  rw [BitVec.ofNat_toNat]; simp⟩
theorem xl_and {n : Nat} (hn : n < 2 ^ 64) : lN n &&& lN 255 = lN (n % 256) := by
  apply Int64.toBitVec_inj.mp
  show (BitVec.ofNat 64 n) &&& (BitVec.ofNat 64 255) = BitVec.ofNat 64 (n % 256)
  apply BitVec.eq_of_toNat_eq
  rw [BitVec.toNat_and, BitVec.toNat_ofNat, BitVec.toNat_ofNat, BitVec.toNat_ofNat, Nat.mod_eq_of_lt hn]
  rw [show 255 % 2 ^ 64 = 2 ^ 8 - 1 from rfl, Nat.and_two_pow_sub_one_eq_mod]
  omega
theorem xl_int {n : Nat} (hn : n < 256) : (lN n).toInt32 = nI n := by
  have : ∀ n : Nat, n < 256 → (lN n).toInt32 = nI n := by decide +kernel
  exact this n hn
theorem xl_k : ∀ k : Nat, k < 64 → ((nI k).toInt64.toUInt64 &&& Int64.toUInt64 63).toNat = k := by decide +kernel
theorem xl_shr {n k : Nat} (hn : n < 2 ^ 64) (hk : k < 64) : ((lN n).toUInt64 >>> ((nI k).toInt64.toUInt64 &&& Int64.toUInt64 63)).toInt64 = lN (n / 2 ^ k) := by
  apply Int64.toBitVec_inj.mp
  show ((lN n).toUInt64 >>> ((nI k).toInt64.toUInt64 &&& Int64.toUInt64 63)).toBitVec = BitVec.ofNat 64 (n / 2 ^ k)
  apply BitVec.eq_of_toNat_eq
  show ((lN n).toUInt64 >>> ((nI k).toInt64.toUInt64 &&& Int64.toUInt64 63)).toNat = _
  rw [UInt64.toNat_shiftRight, xl_k k hk, BitVec.toNat_ofNat, Nat.shiftRight_eq_div_pow]
  have e : (lN n).toUInt64.toNat = n := by
    show (BitVec.ofNat 64 n).toNat = n
    rw [BitVec.toNat_ofNat]; exact Nat.mod_eq_of_lt hn
  rw [e, Nat.mod_eq_of_lt hk]
  exact (Nat.mod_eq_of_lt (Nat.lt_of_le_of_lt (Nat.div_le_self _ _) hn)).symm
theorem xl_0 {n : Nat} (hn : n < 2 ^ 64) : lg_cmp (lN n) (lN 0) = nI 0 ↔ n = 0 := by
  show lg_cmp (lN n) (lN 0) = 0 ↔ _
  rw [lg_cmp_eq]
  constructor
  · intro h
    have h2 : (BitVec.ofNat 64 n) = (BitVec.ofNat 64 0) := congrArg Int64.toBitVec h
    have h3 := congrArg BitVec.toNat h2
    rw [BitVec.toNat_ofNat, BitVec.toNat_ofNat, Nat.mod_eq_of_lt hn] at h3
    exact h3
  · intro h; rw [h]
/-- how many characters a number gives, 0 if they are no good ones -/
def pchars : Nat → Nat → Nat → Nat
  | 0, _, found => found
  | k + 1, rest, found => if rest = 0 then found else if 33 ≤ rest % 256 ∧ rest % 256 ≤ 126 then pchars k (rest / 256) (found + 1) else 0
def pcn (n : Nat) : Nat := pchars 8 n 0
def pput (g : pG) (n : Nat) : pR := if pcn n = 0 then (-2, g) else if 72 < gln g + pcn n then (-4, g) else (nI (gln g + pcn n), gput g (gln g + pcn n) (fun i => if i < gln g then gpd g i else n / 2 ^ (8 * (pcn n - 1 - (i - gln g))) % 256))
theorem pchars_le : ∀ k rest found, pchars k rest found ≤ found + k := by
  intro k
  induction k with
  | zero => intro rest found; exact Nat.le_refl _
  | succ k ih =>
    intro rest found
    unfold pchars
    split
    · omega
    · split
      · have := ih (rest / 256) (found + 1); omega
      · omega
theorem pchars_in : ∀ k rest found, pchars k rest found ≠ 0 → found ≤ pchars k rest found ∧ ∀ j, j < pchars k rest found - found → 33 ≤ rest / 2 ^ (8 * j) % 256 ∧ rest / 2 ^ (8 * j) % 256 ≤ 126 := by
  intro k
  induction k with
  | zero => intro rest found _; exact ⟨Nat.le_refl _, fun j hj => by have : pchars 0 rest found = found := rfl; omega⟩
  | succ k ih =>
    intro rest found h
    unfold pchars at h ⊢
    split
    · exact ⟨Nat.le_refl _, fun j hj => by omega⟩
    · rename_i h0
      rw [if_neg h0] at h
      split
      · rename_i h1
        rw [if_pos h1] at h
        obtain ⟨i1, i2⟩ := ih _ _ h
        refine ⟨by omega, fun j hj => ?_⟩
        cases j with
        | zero => simpa using h1
        | succ j =>
          have := i2 j (by omega)
          rw [Nat.div_div_eq_div_mul] at this
          rw [show 2 ^ (8 * (j + 1)) = 256 * 2 ^ (8 * j) by rw [show 8 * (j + 1) = 8 + 8 * j by omega, Nat.pow_add]]
          exact this
      · rename_i h1; rw [if_neg h1] at h; exact absurd rfl h
section MPU
variable {E : Nat × Nat × Nat} {S : xSh} {V V' W : xV} {Q : Option Value → xSh → xV → Prop} {t : Nat} {g : pG}
theorem m_put {n : Nat} (hn : n < 2 ^ 64) (hR : mRep S V t g) (hG : gG g) (hQ : ∀ V', mRep S V' t (pput g n).2 → mOut V V' t → Q (some (.int (pput g n).1)) S V') : xC E mX5_put [.ref t, .long (lN n)] S V Q := by
  have hR1 : mRep S (xup V t 0 (nI 0)) t g := mRep_up hR (by decide) (by decide); have ho1 : mOut V (xup V t 0 (nI 0)) t := mOut_up (by omega); have hS := hR1.1; obtain ⟨k0, r1, r2, r3, r5, r6, r7, r9, r10, r14, k1, n1, k2, n2, k3, n3, k4, n4, k5, n5, k6, n6, k7, n7, k8, n8, k9, n9⟩ := hS; have hS := hR1.1; have hv : ∀ i, V (t + 1) i = nI (gσ g i) := hR.2.1; have hw := gs_wf hG.1; have hb := wf_b hw; have hv1 : mV (xup V t 0 (nI 0)) t (gσ g) := hR1.2.1
  have h72 := hG.2.2.2.2.1
  have g8 : V t 8 = nI (gln g) := hR.2.2.2.2.2.2.1
  show xX E mX5_put 0 [some (.ref t), some (.long (lN n)), none, none, none, none, none, none] [] S V Q
  simp (disch := (first | assumption | exact xnl_i _ | exact xnl_r _ | exact xnl_n | exact Bool.toNat_lt _ | exact hb _ | exact hb2 _ | omega | exact Nat.le_of_ble_eq_true rfl | rfl | decide)) only [pX5_put_0, pX5_put_1, pX5_put_2, pX5_put_5, pX5_put_6, pX5_put_7, pX5_put_8, pX5_put_10, pX5_put_11, nI_add, pk_mul, xn_sub, xn_and, xn_or, xn_xor, xn_shl, xn_shr, xn_lt, xn_le, xn_eq, xrf_some, xup_eq, xup_ne, xrow_eq, xrow_ne, Option.toList_some, Option.toList_none, List.singleton_append, List.nil_append, List.cons_append, xnl_n, xnl_i, xnl_r, Nat.zero_add, Nat.add_zero, ↓reduceIte, Nat.reduceEqDiff, Nat.reduceLeDiff, Nat.reduceAdd, Nat.reduceMul, Nat.reduceLT, Nat.one_ne_zero, eq_self, not_true_eq_false, not_false_eq_true, and_self, k0, r1, r2, r3, r5, r6, r7, r9, r10, r14]
  obtain ⟨W, hW⟩ : ∃ W, W = xup V t 0 (nI 0) := ⟨_, rfl⟩
  rw [← hW] at hR1 ho1 hv1 ⊢
  have g8W : W t 8 = nI (gln g) := by rw [hW, xup_ne (by omega)]; exact g8
  have hm2 : pput g n = (-2, g) → Q (some (.int (-2))) S W := fun h => by
    rw [h] at hQ; exact hQ _ hR1 ho1
  -- not all good: nothing else can come
  have bad : (Q (some (.int (-2))) S W) → ∀ k i rest l7, i + k = 8 → rest < 2 ^ 64 → xX E mX5_put 13 [some (.ref t), some (.long (lN n)), none, some (.int (nI i)), some (.long (lN rest)), none, some (.int (nI 0)), l7] [] S W Q := by
    intro hq k
    induction k with
    | zero =>
      intro i rest l7 hi hr
      have hi : i = 8 := by omega
      subst hi
      simp (disch := (first | assumption | exact xnl_i _ | exact xnl_r _ | exact xnl_n | exact Bool.toNat_lt _ | exact hb _ | exact hb2 _ | omega | exact Nat.le_of_ble_eq_true rfl | rfl | decide)) only [pX5_put_13, pX5_put_14, pX5_put_16, pX5_put_19, pX5_put_21, pX5_put_24, pX5_put_25, pX5_put_26, pX5_put_27, pX5_put_30, pX5_put_32, pX5_put_35, pX5_put_37, pX5_put_40, pX5_put_41, pX5_put_42, pX5_put_44, pX5_put_46, pX5_put_49, pX5_put_52, pX5_put_53, pX5_put_56, pX5_put_57, pX5_put_59, pX5_put_61, pX5_put_63, pX5_put_64, pX5_put_66, pX5_put_69, pX5_put_72, pX5_put_73, pX5_put_76, pX5_put_78, pX5_put_81, pX5_put_83, pX5_put_84, pX5_put_85, pX5_put_88, pX5_put_90, nI_add, pk_mul, xn_sub, xn_and, xn_or, xn_xor, xn_shl, xn_shr, xn_lt, xn_le, xn_eq, xrf_some, xup_eq, xup_ne, xrow_eq, xrow_ne, Option.toList_some, Option.toList_none, List.singleton_append, List.nil_append, List.cons_append, xnl_n, xnl_i, xnl_r, Nat.zero_add, Nat.add_zero, ↓reduceIte, Nat.reduceEqDiff, Nat.reduceLeDiff, Nat.reduceAdd, Nat.reduceMul, Nat.reduceLT, Nat.one_ne_zero, eq_self, not_true_eq_false, not_false_eq_true, and_self]
      exact hq
    | succ k ih =>
      intro i rest l7 hi hr
      have h8 : ¬ 8 ≤ i := by omega
      have hr2 : rest / 2 ^ 8 < 2 ^ 64 := Nat.lt_of_le_of_lt (Nat.div_le_self _ _) hr
      have hr3 : rest % 256 < 2 ^ 64 := Nat.lt_trans (Nat.mod_lt _ (by decide)) (by decide)
      have ih2 := ih (i + 1) (rest / 2 ^ 8) l7 (by omega) hr2
      rw [pX5_put_13]
      by_cases h0 : rest % 256 = 0
      · by_cases hi0 : i = 0
        · simp (disch := (first | assumption | exact xnl_i _ | exact xnl_r _ | exact xnl_n | exact Bool.toNat_lt _ | exact hb _ | exact hb2 _ | omega | exact Nat.le_of_ble_eq_true rfl | rfl | decide)) only [pX5_put_14, pX5_put_16, pX5_put_19, pX5_put_21, pX5_put_24, pX5_put_25, pX5_put_26, pX5_put_27, pX5_put_30, pX5_put_32, pX5_put_35, pX5_put_37, pX5_put_40, pX5_put_41, pX5_put_42, pX5_put_44, pX5_put_46, pX5_put_49, pX5_put_52, pX5_put_53, pX5_put_56, pX5_put_57, pX5_put_59, pX5_put_61, pX5_put_63, pX5_put_64, pX5_put_66, pX5_put_69, pX5_put_72, pX5_put_73, pX5_put_76, pX5_put_78, pX5_put_81, pX5_put_83, pX5_put_84, pX5_put_85, pX5_put_88, pX5_put_90, nI_add, pk_mul, xn_sub, xn_and, xn_or, xn_xor, xn_shl, xn_shr, xn_lt, xn_le, xn_eq, xrf_some, xup_eq, xup_ne, xrow_eq, xrow_ne, Option.toList_some, Option.toList_none, List.singleton_append, List.nil_append, List.cons_append, xnl_n, xnl_i, xnl_r, Nat.zero_add, Nat.add_zero, ↓reduceIte, Nat.reduceEqDiff, Nat.reduceLeDiff, Nat.reduceAdd, Nat.reduceMul, Nat.reduceLT, Nat.one_ne_zero, eq_self, not_true_eq_false, not_false_eq_true, and_self, h8, xl_and, xl_0, h0, hi0]
          exact hq
        · simp (disch := (first | assumption | exact xnl_i _ | exact xnl_r _ | exact xnl_n | exact Bool.toNat_lt _ | exact hb _ | exact hb2 _ | omega | exact Nat.le_of_ble_eq_true rfl | rfl | decide)) only [pX5_put_14, pX5_put_16, pX5_put_19, pX5_put_21, pX5_put_24, pX5_put_25, pX5_put_26, pX5_put_27, pX5_put_30, pX5_put_32, pX5_put_35, pX5_put_37, pX5_put_40, pX5_put_41, pX5_put_42, pX5_put_44, pX5_put_46, pX5_put_49, pX5_put_52, pX5_put_53, pX5_put_56, pX5_put_57, pX5_put_59, pX5_put_61, pX5_put_63, pX5_put_64, pX5_put_66, pX5_put_69, pX5_put_72, pX5_put_73, pX5_put_76, pX5_put_78, pX5_put_81, pX5_put_83, pX5_put_84, pX5_put_85, pX5_put_88, pX5_put_90, nI_add, pk_mul, xn_sub, xn_and, xn_or, xn_xor, xn_shl, xn_shr, xn_lt, xn_le, xn_eq, xrf_some, xup_eq, xup_ne, xrow_eq, xrow_ne, Option.toList_some, Option.toList_none, List.singleton_append, List.nil_append, List.cons_append, xnl_n, xnl_i, xnl_r, Nat.zero_add, Nat.add_zero, ↓reduceIte, Nat.reduceEqDiff, Nat.reduceLeDiff, Nat.reduceAdd, Nat.reduceMul, Nat.reduceLT, Nat.one_ne_zero, eq_self, not_true_eq_false, not_false_eq_true, and_self, h8, xl_and, xl_0, h0, hi0]
          exact hq
      · simp (disch := (first | assumption | exact xnl_i _ | exact xnl_r _ | exact xnl_n | exact Bool.toNat_lt _ | exact hb _ | exact hb2 _ | omega | exact Nat.le_of_ble_eq_true rfl | rfl | decide)) only [pX5_put_14, pX5_put_16, pX5_put_19, pX5_put_21, pX5_put_24, pX5_put_25, pX5_put_26, pX5_put_27, pX5_put_30, pX5_put_32, pX5_put_56, pX5_put_57, pX5_put_59, pX5_put_61, pX5_put_63, pX5_put_64, pX5_put_66, pX5_put_69, nI_add, pk_mul, xn_sub, xn_and, xn_or, xn_xor, xn_shl, xn_shr, xn_lt, xn_le, xn_eq, xrf_some, xup_eq, xup_ne, xrow_eq, xrow_ne, Option.toList_some, Option.toList_none, List.singleton_append, List.nil_append, List.cons_append, xnl_n, xnl_i, xnl_r, Nat.zero_add, Nat.add_zero, ↓reduceIte, Nat.reduceEqDiff, Nat.reduceLeDiff, Nat.reduceAdd, Nat.reduceMul, Nat.reduceLT, Nat.one_ne_zero, eq_self, not_true_eq_false, not_false_eq_true, and_self, h8, xl_and, xl_0, h0, xl_shr]
        exact ih2
  have good : ∀ k i rest l7, i + k = 8 → rest < 2 ^ (8 * k) → (pchars k rest i = 0 → Q (some (.int (-2))) S W) → (pchars k rest i ≠ 0 → xX E mX5_put 91 [some (.ref t), some (.long (lN n)), none, some (.int (nI (pchars k rest i))), some (.long (lN 0)), none, some (.int (nI 1)), l7] [] S W Q) → xX E mX5_put 13 [some (.ref t), some (.long (lN n)), none, some (.int (nI i)), some (.long (lN rest)), none, some (.int (nI 1)), l7] [] S W Q := by
    intro k
    induction k with
    | zero =>
      intro i rest l7 hi hr hq1 hq2
      have hi : i = 8 := by omega
      subst hi
      have hr0 : rest = 0 := by omega
      subst hr0
      have hz := hq2 (by decide)
      simp (disch := (first | assumption | exact xnl_i _ | exact xnl_r _ | exact xnl_n | exact Bool.toNat_lt _ | exact hb _ | exact hb2 _ | omega | exact Nat.le_of_ble_eq_true rfl | rfl | decide)) only [pX5_put_13, pX5_put_14, pX5_put_16, pX5_put_19, pX5_put_21, pX5_put_24, pX5_put_25, pX5_put_26, pX5_put_27, pX5_put_30, pX5_put_32, pX5_put_35, pX5_put_37, pX5_put_40, pX5_put_41, pX5_put_42, pX5_put_44, pX5_put_46, pX5_put_49, pX5_put_52, pX5_put_53, pX5_put_56, pX5_put_57, pX5_put_59, pX5_put_61, pX5_put_63, pX5_put_64, pX5_put_66, pX5_put_69, pX5_put_72, pX5_put_73, pX5_put_76, pX5_put_78, pX5_put_81, pX5_put_83, pX5_put_84, pX5_put_85, nI_add, pk_mul, xn_sub, xn_and, xn_or, xn_xor, xn_shl, xn_shr, xn_lt, xn_le, xn_eq, xrf_some, xup_eq, xup_ne, xrow_eq, xrow_ne, Option.toList_some, Option.toList_none, List.singleton_append, List.nil_append, List.cons_append, xnl_n, xnl_i, xnl_r, Nat.zero_add, Nat.add_zero, ↓reduceIte, Nat.reduceEqDiff, Nat.reduceLeDiff, Nat.reduceAdd, Nat.reduceMul, Nat.reduceLT, Nat.one_ne_zero, eq_self, not_true_eq_false, not_false_eq_true, and_self, xl_0]
      exact hz
    | succ k ih =>
      intro i rest l7 hi hr hq1 hq2
      have h8 : ¬ 8 ≤ i := by omega
      have hr64 : rest < 2 ^ 64 := Nat.lt_of_lt_of_le hr (Nat.pow_le_pow_right (by decide) (by omega))
      have hr3 : rest % 256 < 2 ^ 64 := Nat.lt_trans (Nat.mod_lt _ (by decide)) (by decide)
      have hr256 : rest % 256 < 256 := Nat.mod_lt _ (by decide)
      have e256 : rest / 256 = rest / 2 ^ 8 := rfl
      unfold pchars at hq1 hq2
      by_cases hr0 : rest = 0
      · subst hr0
        rw [if_pos rfl] at hq1 hq2
        by_cases hi0 : i = 0
        · have hq := hq1 hi0
          simp (disch := (first | assumption | exact xnl_i _ | exact xnl_r _ | exact xnl_n | exact Bool.toNat_lt _ | exact hb _ | exact hb2 _ | omega | exact Nat.le_of_ble_eq_true rfl | rfl | decide)) only [pX5_put_13, pX5_put_14, pX5_put_16, pX5_put_19, pX5_put_21, pX5_put_24, pX5_put_25, pX5_put_26, pX5_put_27, pX5_put_30, pX5_put_32, pX5_put_35, pX5_put_37, pX5_put_40, pX5_put_41, pX5_put_42, pX5_put_44, pX5_put_46, pX5_put_49, pX5_put_52, pX5_put_53, pX5_put_56, pX5_put_57, pX5_put_59, pX5_put_61, pX5_put_63, pX5_put_64, pX5_put_66, pX5_put_69, pX5_put_72, pX5_put_73, pX5_put_76, pX5_put_78, pX5_put_81, pX5_put_83, pX5_put_84, pX5_put_85, pX5_put_88, pX5_put_90, nI_add, pk_mul, xn_sub, xn_and, xn_or, xn_xor, xn_shl, xn_shr, xn_lt, xn_le, xn_eq, xrf_some, xup_eq, xup_ne, xrow_eq, xrow_ne, Option.toList_some, Option.toList_none, List.singleton_append, List.nil_append, List.cons_append, xnl_n, xnl_i, xnl_r, Nat.zero_add, Nat.add_zero, ↓reduceIte, Nat.reduceEqDiff, Nat.reduceLeDiff, Nat.reduceAdd, Nat.reduceMul, Nat.reduceLT, Nat.one_ne_zero, eq_self, not_true_eq_false, not_false_eq_true, and_self, h8, xl_and, xl_0, hi0, Nat.zero_mod]
          exact hq
        · have hq := hq2 hi0
          simp (disch := (first | assumption | exact xnl_i _ | exact xnl_r _ | exact xnl_n | exact Bool.toNat_lt _ | exact hb _ | exact hb2 _ | omega | exact Nat.le_of_ble_eq_true rfl | rfl | decide)) only [pX5_put_13, pX5_put_14, pX5_put_16, pX5_put_19, pX5_put_21, pX5_put_24, pX5_put_25, pX5_put_26, pX5_put_27, pX5_put_30, pX5_put_32, pX5_put_35, pX5_put_37, pX5_put_40, pX5_put_41, pX5_put_42, pX5_put_44, pX5_put_46, pX5_put_49, pX5_put_52, pX5_put_53, pX5_put_56, pX5_put_57, pX5_put_59, pX5_put_61, pX5_put_63, pX5_put_64, pX5_put_66, pX5_put_69, pX5_put_72, pX5_put_73, pX5_put_76, pX5_put_78, pX5_put_81, pX5_put_83, pX5_put_84, pX5_put_85, pX5_put_88, pX5_put_90, nI_add, pk_mul, xn_sub, xn_and, xn_or, xn_xor, xn_shl, xn_shr, xn_lt, xn_le, xn_eq, xrf_some, xup_eq, xup_ne, xrow_eq, xrow_ne, Option.toList_some, Option.toList_none, List.singleton_append, List.nil_append, List.cons_append, xnl_n, xnl_i, xnl_r, Nat.zero_add, Nat.add_zero, ↓reduceIte, Nat.reduceEqDiff, Nat.reduceLeDiff, Nat.reduceAdd, Nat.reduceMul, Nat.reduceLT, Nat.one_ne_zero, eq_self, not_true_eq_false, not_false_eq_true, and_self, h8, xl_and, xl_0, hi0, Nat.zero_mod]
          exact hq
      · rw [if_neg hr0] at hq1 hq2
        by_cases h1 : 33 ≤ rest % 256 ∧ rest % 256 ≤ 126
        · rw [if_pos h1] at hq1 hq2
          rw [e256] at hq1 hq2
          have h0 : ¬ rest % 256 = 0 := by omega
          have ih2 := ih (i + 1) (rest / 2 ^ 8) l7 (by omega) (by
            rw [Nat.div_lt_iff_lt_mul (by decide), ← Nat.pow_add]
            exact Nat.lt_of_lt_of_le hr (Nat.pow_le_pow_right (by decide) (by omega))) hq1 hq2
          rw [pX5_put_13]
          simp (disch := (first | assumption | exact xnl_i _ | exact xnl_r _ | exact xnl_n | exact Bool.toNat_lt _ | exact hb _ | exact hb2 _ | omega | exact Nat.le_of_ble_eq_true rfl | rfl | decide)) only [pX5_put_14, pX5_put_16, pX5_put_19, pX5_put_21, pX5_put_24, pX5_put_25, pX5_put_26, pX5_put_27, pX5_put_30, pX5_put_32, pX5_put_35, pX5_put_37, pX5_put_40, pX5_put_41, pX5_put_42, pX5_put_44, pX5_put_46, pX5_put_49, pX5_put_52, pX5_put_53, pX5_put_56, pX5_put_57, pX5_put_59, pX5_put_61, pX5_put_63, pX5_put_64, pX5_put_66, pX5_put_69, nI_add, pk_mul, xn_sub, xn_and, xn_or, xn_xor, xn_shl, xn_shr, xn_lt, xn_le, xn_eq, xrf_some, xup_eq, xup_ne, xrow_eq, xrow_ne, Option.toList_some, Option.toList_none, List.singleton_append, List.nil_append, List.cons_append, xnl_n, xnl_i, xnl_r, Nat.zero_add, Nat.add_zero, ↓reduceIte, Nat.reduceEqDiff, Nat.reduceLeDiff, Nat.reduceAdd, Nat.reduceMul, Nat.reduceLT, Nat.one_ne_zero, eq_self, not_true_eq_false, not_false_eq_true, and_self, h8, xl_and, xl_0, h0, xl_shr, xl_int, s_in, h1]
          exact ih2
        · rw [if_neg h1] at hq1
          have hq := hq1 rfl
          by_cases h0 : rest % 256 = 0
          · by_cases hi0 : i = 0
            · simp (disch := (first | assumption | exact xnl_i _ | exact xnl_r _ | exact xnl_n | exact Bool.toNat_lt _ | exact hb _ | exact hb2 _ | omega | exact Nat.le_of_ble_eq_true rfl | rfl | decide)) only [pX5_put_13, pX5_put_14, pX5_put_16, pX5_put_19, pX5_put_21, pX5_put_24, pX5_put_25, pX5_put_26, pX5_put_27, pX5_put_30, pX5_put_32, pX5_put_35, pX5_put_37, pX5_put_40, pX5_put_41, pX5_put_42, pX5_put_44, pX5_put_46, pX5_put_49, pX5_put_52, pX5_put_53, pX5_put_56, pX5_put_57, pX5_put_59, pX5_put_61, pX5_put_63, pX5_put_64, pX5_put_66, pX5_put_69, pX5_put_72, pX5_put_73, pX5_put_76, pX5_put_78, pX5_put_81, pX5_put_83, pX5_put_84, pX5_put_85, pX5_put_88, pX5_put_90, nI_add, pk_mul, xn_sub, xn_and, xn_or, xn_xor, xn_shl, xn_shr, xn_lt, xn_le, xn_eq, xrf_some, xup_eq, xup_ne, xrow_eq, xrow_ne, Option.toList_some, Option.toList_none, List.singleton_append, List.nil_append, List.cons_append, xnl_n, xnl_i, xnl_r, Nat.zero_add, Nat.add_zero, ↓reduceIte, Nat.reduceEqDiff, Nat.reduceLeDiff, Nat.reduceAdd, Nat.reduceMul, Nat.reduceLT, Nat.one_ne_zero, eq_self, not_true_eq_false, not_false_eq_true, and_self, h8, xl_and, xl_0, hi0, h0]
              exact hq
            · simp (disch := (first | assumption | exact xnl_i _ | exact xnl_r _ | exact xnl_n | exact Bool.toNat_lt _ | exact hb _ | exact hb2 _ | omega | exact Nat.le_of_ble_eq_true rfl | rfl | decide)) only [pX5_put_13, pX5_put_14, pX5_put_16, pX5_put_19, pX5_put_21, pX5_put_24, pX5_put_25, pX5_put_26, pX5_put_27, pX5_put_30, pX5_put_32, pX5_put_35, pX5_put_37, pX5_put_40, pX5_put_41, pX5_put_42, pX5_put_44, pX5_put_46, pX5_put_49, pX5_put_52, pX5_put_53, pX5_put_56, pX5_put_57, pX5_put_59, pX5_put_61, pX5_put_63, pX5_put_64, pX5_put_66, pX5_put_69, pX5_put_72, pX5_put_73, pX5_put_76, pX5_put_78, pX5_put_81, pX5_put_83, pX5_put_84, pX5_put_85, pX5_put_88, pX5_put_90, nI_add, pk_mul, xn_sub, xn_and, xn_or, xn_xor, xn_shl, xn_shr, xn_lt, xn_le, xn_eq, xrf_some, xup_eq, xup_ne, xrow_eq, xrow_ne, Option.toList_some, Option.toList_none, List.singleton_append, List.nil_append, List.cons_append, xnl_n, xnl_i, xnl_r, Nat.zero_add, Nat.add_zero, ↓reduceIte, Nat.reduceEqDiff, Nat.reduceLeDiff, Nat.reduceAdd, Nat.reduceMul, Nat.reduceLT, Nat.one_ne_zero, eq_self, not_true_eq_false, not_false_eq_true, and_self, h8, xl_and, xl_0, hi0, h0, hr0]
              exact hq
          · have hb := bad hq k (i + 1) (rest / 2 ^ 8) l7 (by omega) (Nat.lt_of_le_of_lt (Nat.div_le_self _ _) hr64)
            rw [pX5_put_13]
            simp (disch := (first | assumption | exact xnl_i _ | exact xnl_r _ | exact xnl_n | exact Bool.toNat_lt _ | exact hb _ | exact hb2 _ | omega | exact Nat.le_of_ble_eq_true rfl | rfl | decide)) only [pX5_put_14, pX5_put_16, pX5_put_19, pX5_put_21, pX5_put_24, pX5_put_25, pX5_put_26, pX5_put_27, pX5_put_30, pX5_put_32, pX5_put_35, pX5_put_37, pX5_put_40, pX5_put_41, pX5_put_42, pX5_put_44, pX5_put_46, pX5_put_49, pX5_put_52, pX5_put_53, pX5_put_56, pX5_put_57, pX5_put_59, pX5_put_61, pX5_put_63, pX5_put_64, pX5_put_66, pX5_put_69, nI_add, pk_mul, xn_sub, xn_and, xn_or, xn_xor, xn_shl, xn_shr, xn_lt, xn_le, xn_eq, xrf_some, xup_eq, xup_ne, xrow_eq, xrow_ne, Option.toList_some, Option.toList_none, List.singleton_append, List.nil_append, List.cons_append, xnl_n, xnl_i, xnl_r, Nat.zero_add, Nat.add_zero, ↓reduceIte, Nat.reduceEqDiff, Nat.reduceLeDiff, Nat.reduceAdd, Nat.reduceMul, Nat.reduceLT, Nat.one_ne_zero, eq_self, not_true_eq_false, not_false_eq_true, and_self, h8, xl_and, xl_0, h0, xl_shr, xl_int, s_in, h1]
            exact hb
  refine good 8 0 n none rfl hn (fun h0 => hm2 ?_) (fun h0 => ?_)
  · unfold pput pcn; rw [if_pos h0]
  · have hm8 : pchars 8 n 0 ≤ 8 := by have := pchars_le 8 n 0; omega
    unfold pput pcn at hQ
    rw [if_neg h0] at hQ
    generalize pchars 8 n 0 = m at h0 hm8 hQ ⊢
    by_cases h : 72 < gln g + m
    · rw [if_pos h] at hQ
      have h' : ¬ gln g + m ≤ 72 := by omega
      simp (disch := (first | assumption | exact xnl_i _ | exact xnl_r _ | exact xnl_n | exact Bool.toNat_lt _ | exact hb _ | exact hb2 _ | omega | exact Nat.le_of_ble_eq_true rfl | rfl | decide)) only [pX5_put_91, pX5_put_92, pX5_put_95, pX5_put_96, pX5_put_97, pX5_put_99, pX5_put_102, pX5_put_104, nI_add, pk_mul, xn_sub, xn_and, xn_or, xn_xor, xn_shl, xn_shr, xn_lt, xn_le, xn_eq, xrf_some, xup_eq, xup_ne, xrow_eq, xrow_ne, Option.toList_some, Option.toList_none, List.singleton_append, List.nil_append, List.cons_append, xnl_n, xnl_i, xnl_r, Nat.zero_add, Nat.add_zero, ↓reduceIte, Nat.reduceEqDiff, Nat.reduceLeDiff, Nat.reduceAdd, Nat.reduceMul, Nat.reduceLT, Nat.one_ne_zero, eq_self, not_true_eq_false, not_false_eq_true, and_self, k0, r1, r2, r3, r5, r6, r7, r9, r10, r14, g8W, h']
      exact hQ _ hR1 ho1
    · rw [if_neg h] at hQ
      have h' : gln g + m ≤ 72 := by omega
      obtain ⟨R, hRd⟩ : ∃ R : Nat → Nat → Int32, R = fun j i => if gln g ≤ i ∧ i < gln g + j then nI (n / 2 ^ (8 * (m - 1 - (i - gln g))) % 256) else W (t + 6) i := ⟨_, rfl⟩
      have hR0 : R 0 = W (t + 6) := by rw [hRd]; funext i; dsimp only; rw [if_neg (by omega)]
      have hRs : ∀ j, (fun i => if i = gln g + j then nI (n / 2 ^ (8 * (m - 1 - j)) % 256) else R j i) = R (j + 1) := by
        intro j
        rw [hRd]; funext i
        dsimp only
        by_cases hi : i = gln g + j
        · rw [if_pos hi, if_pos (by omega), show i - gln g = j by omega]
        · rw [if_neg hi]
          by_cases hi2 : gln g ≤ i ∧ i < gln g + j
          · rw [if_pos hi2, if_pos (by omega)]
          · rw [if_neg hi2, if_neg (by omega)]
      have loop : ∀ k j, j + k = m → xX E mX5_put 108 [some (.ref t), some (.long (lN n)), none, some (.int (nI m)), some (.long (lN 0)), none, some (.int (nI 1)), some (.int (nI j))] [] S (xrow W (t + 6) (R j)) Q := by
        intro k
        induction k with
        | zero =>
          intro j hj
          have hj : j = m := by omega
          subst hj
          have e8 : xrow W (t + 6) (R j) t 8 = nI (gln g) := by rw [xrow_ne (by omega)]; exact g8W
          simp (disch := (first | assumption | exact xnl_i _ | exact xnl_r _ | exact xnl_n | exact Bool.toNat_lt _ | exact hb _ | exact hb2 _ | omega | exact Nat.le_of_ble_eq_true rfl | rfl | decide)) only [pX5_put_108, pX5_put_110, pX5_put_111, pX5_put_148, pX5_put_149, pX5_put_149i, pX5_put_150, pX5_put_153, pX5_put_154, pX5_put_155, pX5_put_158, pX5_put_159, pX5_put_162, nI_add, pk_mul, xn_sub, xn_and, xn_or, xn_xor, xn_shl, xn_shr, xn_lt, xn_le, xn_eq, xrf_some, xup_eq, xup_ne, xrow_eq, xrow_ne, Option.toList_some, Option.toList_none, List.singleton_append, List.nil_append, List.cons_append, xnl_n, xnl_i, xnl_r, Nat.zero_add, Nat.add_zero, ↓reduceIte, Nat.reduceEqDiff, Nat.reduceLeDiff, Nat.reduceAdd, Nat.reduceMul, Nat.reduceLT, Nat.one_ne_zero, eq_self, not_true_eq_false, not_false_eq_true, and_self, Nat.le_refl, k0, r1, r2, r3, r5, r6, r7, r9, r10, r14, g8W]
          refine hQ _ ?_ (mOut_t ho1 (mOut_t (mOut_row (by omega)) (mOut_up (by omega))))
          obtain ⟨q1, q2, q3, q4, q5, q6, q7, q8⟩ := hR1
          have e : ∀ a, ¬ a = t → ¬ a = t + 6 → xup (xrow W (t + 6) (R j)) t 8 (nI (gln g + j)) a = W a := fun a h1 h2 => by funext i; rw [xup_ne (by omega), xrow_ne h2]
          refine ⟨q1, fun i => by rw [e _ (by omega) (by omega)]; exact q2 i, by rw [xup_ne (by omega), xrow_ne (by omega)]; exact q3, by rw [e (t + 3) (by omega) (by omega)]; exact q4, by rw [e (t + 5) (by omega) (by omega)]; exact q5, by rw [e (t + 4) (by omega) (by omega)]; exact q6, xup_eq, fun i hi => ?_⟩
          have hi : i < gln g + j := hi
          show _ = nI (if i < gln g then gpd g i else n / 2 ^ (8 * (j - 1 - (i - gln g))) % 256)
          rw [xup_ne (by omega), xrow_eq, hRd]
          dsimp only
          by_cases hil : i < gln g
          · rw [if_neg (by omega), if_pos hil]; exact q8 i hil
          · rw [if_pos (by omega), if_neg hil]
        | succ k ih =>
          intro j hj
          have hjm : ¬ m ≤ j := by omega
          have hsh : 8 * (m - 1 - j) < 64 := by omega
          have hr2 : n / 2 ^ (8 * (m - 1 - j)) < 2 ^ 64 := Nat.lt_of_le_of_lt (Nat.div_le_self _ _) hn
          have hr3 : n / 2 ^ (8 * (m - 1 - j)) % 256 < 256 := Nat.mod_lt _ (by decide)
          have ih2 := ih (j + 1) (by omega)
          rw [← hRs, ← xup_row] at ih2
          rw [pX5_put_108]
          simp (disch := (first | assumption | exact xnl_i _ | exact xnl_r _ | exact xnl_n | exact Bool.toNat_lt _ | exact hb _ | exact hb2 _ | omega | exact Nat.le_of_ble_eq_true rfl | rfl | decide)) only [pX5_put_110, pX5_put_111, pX5_put_114, pX5_put_115, pX5_put_118, pX5_put_119, pX5_put_122, pX5_put_124, pX5_put_125, pX5_put_126, pX5_put_128, pX5_put_129, pX5_put_130, pX5_put_131, pX5_put_133, pX5_put_134, pX5_put_135, pX5_put_136, pX5_put_139, pX5_put_140, pX5_put_141, pX5_put_142, pX5_put_145, nI_add, pk_mul, xn_sub, xn_and, xn_or, xn_xor, xn_shl, xn_shr, xn_lt, xn_le, xn_eq, xrf_some, xup_eq, xup_ne, xrow_eq, xrow_ne, Option.toList_some, Option.toList_none, List.singleton_append, List.nil_append, List.cons_append, xnl_n, xnl_i, xnl_r, Nat.zero_add, Nat.add_zero, ↓reduceIte, Nat.reduceEqDiff, Nat.reduceLeDiff, Nat.reduceAdd, Nat.reduceMul, Nat.reduceLT, Nat.one_ne_zero, eq_self, not_true_eq_false, not_false_eq_true, and_self, k0, r1, r2, r3, r5, r6, r7, r9, r10, r14, hjm, g8W, xl_shr, xl_and, xl_int]
          exact ih2
      have hl := loop m 0 (by omega)
      rw [hR0, xrow_self] at hl
      simp (disch := (first | assumption | exact xnl_i _ | exact xnl_r _ | exact xnl_n | exact Bool.toNat_lt _ | exact hb _ | exact hb2 _ | omega | exact Nat.le_of_ble_eq_true rfl | rfl | decide)) only [pX5_put_91, pX5_put_92, pX5_put_95, pX5_put_96, pX5_put_97, pX5_put_99, pX5_put_102, pX5_put_104, pX5_put_105, pX5_put_106, nI_add, pk_mul, xn_sub, xn_and, xn_or, xn_xor, xn_shl, xn_shr, xn_lt, xn_le, xn_eq, xrf_some, xup_eq, xup_ne, xrow_eq, xrow_ne, Option.toList_some, Option.toList_none, List.singleton_append, List.nil_append, List.cons_append, xnl_n, xnl_i, xnl_r, Nat.zero_add, Nat.add_zero, ↓reduceIte, Nat.reduceEqDiff, Nat.reduceLeDiff, Nat.reduceAdd, Nat.reduceMul, Nat.reduceLT, Nat.one_ne_zero, eq_self, not_true_eq_false, not_false_eq_true, and_self, k0, r1, r2, r3, r5, r6, r7, r9, r10, r14, g8W, h']
      exact hl
end MPU
