/-! ===== the reference: undo, save, restore; what it puts aside ===== -/
theorem xn_toInt {a : Nat} (h : a < 2147483648) : (nI a).toInt = (a : Int) := by
  show (BitVec.ofNat 32 a).toInt = (a : Int)
  rw [BitVec.toInt_eq_toNat_cond, BitVec.toNat_ofNat]
  have : a % 2 ^ 32 = a := Nat.mod_eq_of_lt (by omega)
  rw [this, if_pos (by omega)]
theorem xrng (v : Int32) (lo hi : Nat) (hl : lo ≤ hi) (hh : hi < 2147483648) : (∃ c, lo ≤ c ∧ c ≤ hi ∧ v = nI c) ∨ (¬ (nI lo ≤ v ∧ v ≤ nI hi) ∧ (v < nI lo ∨ nI hi < v)) := by
  by_cases h : nI lo ≤ v ∧ v ≤ nI hi
  · left
    obtain ⟨h1, h2⟩ := h
    rw [Int32.le_iff_toInt_le, xn_toInt (by omega)] at h1
    rw [Int32.le_iff_toInt_le, xn_toInt (by omega)] at h2
    refine ⟨v.toInt.toNat, by omega, by omega, ?_⟩
    apply Int32.toInt_inj.mp
    rw [xn_toInt (by omega)]
    omega
  · right
    refine ⟨h, ?_⟩
    by_cases h1 : v < nI lo
    · exact Or.inl h1
    · exact Or.inr (Int32.not_le.mp fun z => h ⟨Int32.not_lt.mp h1, z⟩)
def ix (v : Int32) : Nat := v.toNatClampNeg
theorem ix_n {c : Nat} (h : c < 2147483648) : ix (nI c) = c := xn_cl h
abbrev pR : Type := Int32 × pG
def pundo (g : pG) : pR := if gu g = 0 then (-5, g) else (nI (gu g - 1), gundo g)
def psave (g : pG) (v : Int32) : pR := if nI 0 ≤ v ∧ v ≤ nI 1 then (nI (gσ g 496), gsave g (ix v)) else (-2, g)
def prestore (g : pG) (v : Int32) : pR := if nI 0 ≤ v ∧ v ≤ nI 1 then (if gis g (ix v) = true then (nI (gsv g (ix v) 496), gset (grec g) (gsv g (ix v))) else (-5, g)) else (-2, g)
section MUN
variable {E : Nat × Nat × Nat} {S : xSh} {V V' V2 : xV} {Q : Option Value → xSh → xV → Prop} {t : Nat} {g : pG}
/-- a row of 502 cells holds a state -/
theorem mset_cp {W : xV} {σ : Nat → Nat} {f h : Nat → Int32} {e : Nat} (hf : ∀ i, 502 ≤ i → f i = nI 0) (hz : ∀ i, 502 ≤ i → σ i = 0) (hh : ∀ j, j < 502 → h (j + e) = nI (σ j)) : xrow W (t + 1) (cpf f h 0 e 502) = mset W t σ := by
  unfold mset
  congr 1
  funext j
  unfold cpf
  by_cases hj : j < 502
  · rw [if_pos (by omega), Nat.sub_zero, hh j hj]
  · rw [if_neg (by omega), hf j (by omega), hz j (by omega)]
theorem m_putAside (hR : mRep S V t g) : ∃ V', mRep S V' t g ∧ mOut V V' t ∧ (∀ j, j < 502 → V' (t + 2) j = nI (gσ g j)) ∧ ∀ Q : Option Value → xSh → xV → Prop, xC E mX5_putAside [.ref t] S V Q ↔ Q none S V' := by
  have hR0 := hR
  obtain ⟨hS, hσ, g3, g4, g5, g6, g7, g8⟩ := hR
  have hS' := hS; obtain ⟨k0, r1, r2, r3, r5, r6, r7, r9, r10, r14, k1, n1, k2, n2, k3, n3, k4, n4, k5, n5, k6, n6, k7, n7, k8, n8, k9, n9⟩ := hS'
  have hv : ∀ i, V (t + 1) i = nI (gσ g i) := hσ
  refine ⟨xrow V (t + 2) (cpf (V (t + 2)) (V (t + 1)) 0 0 502), mRep_row hR0 (Or.inl rfl), mOut_row (by omega), fun j hj => ?_, fun Q => ?_⟩
  · rw [xrow_eq, cpf_in (by omega) (by omega), hv]; rfl
  · have loop : ∀ k i, i + k = 502 → (xX E mX5_putAside 2 [some (.ref t), some (.int (nI i))] [] S (xrow V (t + 2) (cpf (V (t + 2)) (V (t + 1)) 0 0 i)) Q ↔ Q none S (xrow V (t + 2) (cpf (V (t + 2)) (V (t + 1)) 0 0 502))) := by
      intro k
      induction k with
      | zero =>
        intro i hn
        have hi : i = 502 := by omega
        subst hi
        simp (disch := (first | assumption | exact xnl_i _ | exact xnl_r _ | exact xnl_n | exact Bool.toNat_lt _ | exact hb _ | exact hb2 _ | omega | exact Nat.le_of_ble_eq_true rfl | rfl | decide)) only [pX5_putAside_0, pX5_putAside_1, pX5_putAside_2, pX5_putAside_3, pX5_putAside_6, pX5_putAside_9, pX5_putAside_10, pX5_putAside_13, pX5_putAside_14, pX5_putAside_15, pX5_putAside_18, pX5_putAside_19, pX5_putAside_20, pX5_putAside_21, pX5_putAside_24, pX5_putAside_27, nI_add, pk_mul, xn_sub, xn_and, xn_or, xn_xor, xn_shl, xn_shr, xn_lt, xn_le, xn_eq, xrf_some, xup_eq, xup_ne, xrow_eq, xrow_ne, Option.toList_some, Option.toList_none, List.singleton_append, List.nil_append, List.cons_append, xnl_n, xnl_i, xnl_r, Nat.zero_add, Nat.add_zero, ↓reduceIte, Nat.reduceEqDiff, Nat.reduceLeDiff, Nat.reduceAdd, Nat.reduceMul, Nat.reduceLT, Nat.one_ne_zero, eq_self, not_true_eq_false, not_false_eq_true, and_self]
      | succ k ih =>
        intro i hn
        have h : ¬ 502 ≤ i := by omega
        have ih2 := ih (i + 1) (by omega)
        rw [pX5_putAside_2]
        simp (disch := (first | assumption | exact xnl_i _ | exact xnl_r _ | exact xnl_n | exact Bool.toNat_lt _ | exact hb _ | exact hb2 _ | omega | exact Nat.le_of_ble_eq_true rfl | rfl | decide)) only [pX5_putAside_0, pX5_putAside_1, pX5_putAside_3, pX5_putAside_6, pX5_putAside_9, pX5_putAside_10, pX5_putAside_13, pX5_putAside_14, pX5_putAside_15, pX5_putAside_18, pX5_putAside_19, pX5_putAside_20, pX5_putAside_21, pX5_putAside_24, pX5_putAside_27, nI_add, pk_mul, xn_sub, xn_and, xn_or, xn_xor, xn_shl, xn_shr, xn_lt, xn_le, xn_eq, xrf_some, xup_eq, xup_ne, xrow_eq, xrow_ne, Option.toList_some, Option.toList_none, List.singleton_append, List.nil_append, List.cons_append, xnl_n, xnl_i, xnl_r, Nat.zero_add, Nat.add_zero, ↓reduceIte, Nat.reduceEqDiff, Nat.reduceLeDiff, Nat.reduceAdd, Nat.reduceMul, Nat.reduceLT, Nat.one_ne_zero, eq_self, not_true_eq_false, not_false_eq_true, and_self, k0, r1, r2, r3, r5, r6, r7, r9, r10, r14, h, hv]
        rw [xup_cp (by rw [Nat.zero_add, hv]) (by omega)]
        exact ih2
    have := loop 502 0 rfl
    rw [cpf_0, xrow_self] at this
    show xX E mX5_putAside 0 [some (.ref t), none] [] S V Q ↔ _
    simp (disch := (first | assumption | exact xnl_i _ | exact xnl_r _ | exact xnl_n | exact Bool.toNat_lt _ | exact hb _ | exact hb2 _ | omega | exact Nat.le_of_ble_eq_true rfl | rfl | decide)) only [pX5_putAside_0, pX5_putAside_1, nI_add, pk_mul, xn_sub, xn_and, xn_or, xn_xor, xn_shl, xn_shr, xn_lt, xn_le, xn_eq, xrf_some, xup_eq, xup_ne, xrow_eq, xrow_ne, Option.toList_some, Option.toList_none, List.singleton_append, List.nil_append, List.cons_append, xnl_n, xnl_i, xnl_r, Nat.zero_add, Nat.add_zero, ↓reduceIte, Nat.reduceEqDiff, Nat.reduceLeDiff, Nat.reduceAdd, Nat.reduceMul, Nat.reduceLT, Nat.one_ne_zero, eq_self, not_true_eq_false, not_false_eq_true, and_self]
    exact this
theorem s_takeBack {σ σ0 : Nat → Nat} (hS : mShape S t) (hσ : mV V t σ) (hz : ∀ i, 502 ≤ i → σ i = 0) (hz0 : ∀ i, 502 ≤ i → σ0 i = 0) (h2 : ∀ j, j < 502 → V (t + 2) j = nI (σ0 j)) : xC E mX5_takeBack [.ref t] S V Q ↔ Q none S (mset V t σ0) := by
  have hS' := hS; obtain ⟨k0, r1, r2, r3, r5, r6, r7, r9, r10, r14, k1, n1, k2, n2, k3, n3, k4, n4, k5, n5, k6, n6, k7, n7, k8, n8, k9, n9⟩ := hS'
  have hm : xrow V (t + 1) (cpf (V (t + 1)) (V (t + 2)) 0 0 502) = mset V t σ0 := mset_cp (fun i hi => by rw [hσ i, hz i hi]) hz0 (fun j hj => h2 j hj)
  have loop : ∀ k i, i + k = 502 → (xX E mX5_takeBack 2 [some (.ref t), some (.int (nI i))] [] S (xrow V (t + 1) (cpf (V (t + 1)) (V (t + 2)) 0 0 i)) Q ↔ Q none S (mset V t σ0)) := by
    intro k
    induction k with
    | zero =>
      intro i hn
      have hi : i = 502 := by omega
      subst hi
      simp (disch := (first | assumption | exact xnl_i _ | exact xnl_r _ | exact xnl_n | exact Bool.toNat_lt _ | exact hb _ | exact hb2 _ | omega | exact Nat.le_of_ble_eq_true rfl | rfl | decide)) only [pX5_takeBack_0, pX5_takeBack_1, pX5_takeBack_2, pX5_takeBack_3, pX5_takeBack_6, pX5_takeBack_9, pX5_takeBack_10, pX5_takeBack_13, pX5_takeBack_14, pX5_takeBack_15, pX5_takeBack_18, pX5_takeBack_19, pX5_takeBack_20, pX5_takeBack_21, pX5_takeBack_24, pX5_takeBack_27, nI_add, pk_mul, xn_sub, xn_and, xn_or, xn_xor, xn_shl, xn_shr, xn_lt, xn_le, xn_eq, xrf_some, xup_eq, xup_ne, xrow_eq, xrow_ne, Option.toList_some, Option.toList_none, List.singleton_append, List.nil_append, List.cons_append, xnl_n, xnl_i, xnl_r, Nat.zero_add, Nat.add_zero, ↓reduceIte, Nat.reduceEqDiff, Nat.reduceLeDiff, Nat.reduceAdd, Nat.reduceMul, Nat.reduceLT, Nat.one_ne_zero, eq_self, not_true_eq_false, not_false_eq_true, and_self, hm]
    | succ k ih =>
      intro i hn
      have h : ¬ 502 ≤ i := by omega
      have ih2 := ih (i + 1) (by omega)
      rw [pX5_takeBack_2]
      simp (disch := (first | assumption | exact xnl_i _ | exact xnl_r _ | exact xnl_n | exact Bool.toNat_lt _ | exact hb _ | exact hb2 _ | omega | exact Nat.le_of_ble_eq_true rfl | rfl | decide)) only [pX5_takeBack_0, pX5_takeBack_1, pX5_takeBack_3, pX5_takeBack_6, pX5_takeBack_9, pX5_takeBack_10, pX5_takeBack_13, pX5_takeBack_14, pX5_takeBack_15, pX5_takeBack_18, pX5_takeBack_19, pX5_takeBack_20, pX5_takeBack_21, pX5_takeBack_24, pX5_takeBack_27, nI_add, pk_mul, xn_sub, xn_and, xn_or, xn_xor, xn_shl, xn_shr, xn_lt, xn_le, xn_eq, xrf_some, xup_eq, xup_ne, xrow_eq, xrow_ne, Option.toList_some, Option.toList_none, List.singleton_append, List.nil_append, List.cons_append, xnl_n, xnl_i, xnl_r, Nat.zero_add, Nat.add_zero, ↓reduceIte, Nat.reduceEqDiff, Nat.reduceLeDiff, Nat.reduceAdd, Nat.reduceMul, Nat.reduceLT, Nat.one_ne_zero, eq_self, not_true_eq_false, not_false_eq_true, and_self, k0, r1, r2, r3, r5, r6, r7, r9, r10, r14, h]
      rw [xup_cp (by rw [Nat.zero_add]) (by omega)]
      exact ih2
  have := loop 502 0 rfl
  rw [cpf_0, xrow_self] at this
  show xX E mX5_takeBack 0 [some (.ref t), none] [] S V Q ↔ _
  simp (disch := (first | assumption | exact xnl_i _ | exact xnl_r _ | exact xnl_n | exact Bool.toNat_lt _ | exact hb _ | exact hb2 _ | omega | exact Nat.le_of_ble_eq_true rfl | rfl | decide)) only [pX5_takeBack_0, pX5_takeBack_1, nI_add, pk_mul, xn_sub, xn_and, xn_or, xn_xor, xn_shl, xn_shr, xn_lt, xn_le, xn_eq, xrf_some, xup_eq, xup_ne, xrow_eq, xrow_ne, Option.toList_some, Option.toList_none, List.singleton_append, List.nil_append, List.cons_append, xnl_n, xnl_i, xnl_r, Nat.zero_add, Nat.add_zero, ↓reduceIte, Nat.reduceEqDiff, Nat.reduceLeDiff, Nat.reduceAdd, Nat.reduceMul, Nat.reduceLT, Nat.one_ne_zero, eq_self, not_true_eq_false, not_false_eq_true, and_self]
  exact this
theorem m_undo (hR : mRep S V t g) (hG : gG g) (hQ : ∀ V', mRep S V' t (pundo g).2 → mOut V V' t → Q (some (.int (pundo g).1)) S V') : xC E mX5_undo [.ref t] S V Q := by
  have hR1 : mRep S (xup V t 0 (nI 0)) t g := mRep_up hR (by decide) (by decide)
  have ho1 : mOut V (xup V t 0 (nI 0)) t := mOut_up (by omega)
  obtain ⟨hS, hσ, g3, g4, g5, g6, g7, g8⟩ := hR
  have hS' := hS; obtain ⟨k0, r1, r2, r3, r5, r6, r7, r9, r10, r14, k1, n1, k2, n2, k3, n3, k4, n4, k5, n5, k6, n6, k7, n7, k8, n8, k9, n9⟩ := hS'
  have hv : ∀ i, V (t + 1) i = nI (gσ g i) := hσ
  have hu := hG.2.1
  have hub : gu g < 2147483648 := by omega
  show xX E mX5_undo 0 [some (.ref t), none] [] S V Q
  unfold pundo at hQ
  by_cases h0 : gu g = 0
  · rw [if_pos h0] at hQ
    simp (disch := (first | assumption | exact xnl_i _ | exact xnl_r _ | exact xnl_n | exact Bool.toNat_lt _ | exact hb _ | exact hb2 _ | omega | exact Nat.le_of_ble_eq_true rfl | rfl | decide)) only [pX5_undo_0, pX5_undo_1, pX5_undo_2, pX5_undo_5, pX5_undo_6, pX5_undo_9, pX5_undo_12, pX5_undo_14, nI_add, pk_mul, xn_sub, xn_and, xn_or, xn_xor, xn_shl, xn_shr, xn_lt, xn_le, xn_eq, xrf_some, xup_eq, xup_ne, xrow_eq, xrow_ne, Option.toList_some, Option.toList_none, List.singleton_append, List.nil_append, List.cons_append, xnl_n, xnl_i, xnl_r, Nat.zero_add, Nat.add_zero, ↓reduceIte, Nat.reduceEqDiff, Nat.reduceLeDiff, Nat.reduceAdd, Nat.reduceMul, Nat.reduceLT, Nat.one_ne_zero, eq_self, not_true_eq_false, not_false_eq_true, and_self, k0, r1, r2, r3, r5, r6, r7, r9, r10, r14, g3, h0]
    exact hQ _ hR1 ho1
  · rw [if_neg h0] at hQ
    have hgu := hG.2.2.1 (gu g - 1) (by omega)
    obtain ⟨W, hW⟩ : ∃ W, W = xup (xup V t 0 (nI 0)) t 4 (nI (gu g - 1)) := ⟨_, rfl⟩
    have hwi : ∀ a, ¬ a = t → W a = V a := fun a h1 => by rw [hW]; funext i; rw [xup_ne (by omega), xup_ne (by omega)]
    have hw4 : W t 4 = nI (gu g - 1) := by rw [hW, xup_eq]
    have hw8 : W t 8 = V t 8 := by rw [hW, xup_ne (by omega), xup_ne (by omega)]
    have hm : xrow W (t + 1) (cpf (W (t + 1)) (W (t + 3)) 0 (502 * (gu g - 1)) 502) = mset W t (gU g (gu g - 1)) := mset_cp (fun i hi => by rw [hwi _ (by omega), hv, hG.1.1.2.1 i hi]) hgu.1.2.1 (fun j hj => by rw [hwi _ (by omega), Nat.add_comm j, g4 (gu g - 1) (by omega) j hj])
    have loop : ∀ k i, i + k = 502 → (xX E mX5_undo 27 [some (.ref t), some (.int (nI i))] [] S (xrow W (t + 1) (cpf (W (t + 1)) (W (t + 3)) 0 (502 * (gu g - 1)) i)) Q ↔ Q (some (.int (nI (gu g - 1)))) S (mset W t (gU g (gu g - 1)))) := by
      intro k
      induction k with
      | zero =>
        intro i hn
        have hi : i = 502 := by omega
        subst hi
        have hk : mset W t (gU g (gu g - 1)) t 4 = nI (gu g - 1) := by rw [mset_ne (by omega), hw4]
        simp (disch := (first | assumption | exact xnl_i _ | exact xnl_r _ | exact xnl_n | exact Bool.toNat_lt _ | exact hb _ | exact hb2 _ | omega | exact Nat.le_of_ble_eq_true rfl | rfl | decide)) only [pX5_undo_27, pX5_undo_28, pX5_undo_31, pX5_undo_61, pX5_undo_62, pX5_undo_65, nI_add, pk_mul, xn_sub, xn_and, xn_or, xn_xor, xn_shl, xn_shr, xn_lt, xn_le, xn_eq, xrf_some, xup_eq, xup_ne, xrow_eq, xrow_ne, Option.toList_some, Option.toList_none, List.singleton_append, List.nil_append, List.cons_append, xnl_n, xnl_i, xnl_r, Nat.zero_add, Nat.add_zero, ↓reduceIte, Nat.reduceEqDiff, Nat.reduceLeDiff, Nat.reduceAdd, Nat.reduceMul, Nat.reduceLT, Nat.one_ne_zero, eq_self, not_true_eq_false, not_false_eq_true, and_self, k0, r1, r2, r3, r5, r6, r7, r9, r10, r14, hm, hk]
      | succ k ih =>
        intro i hn
        have h : ¬ 502 ≤ i := by omega
        have ih2 := ih (i + 1) (by omega)
        rw [pX5_undo_27]
        simp (disch := (first | assumption | exact xnl_i _ | exact xnl_r _ | exact xnl_n | exact Bool.toNat_lt _ | exact hb _ | exact hb2 _ | omega | exact Nat.le_of_ble_eq_true rfl | rfl | decide)) only [pX5_undo_28, pX5_undo_31, pX5_undo_34, pX5_undo_35, pX5_undo_38, pX5_undo_39, pX5_undo_40, pX5_undo_43, pX5_undo_46, pX5_undo_47, pX5_undo_50, pX5_undo_51, pX5_undo_52, pX5_undo_53, pX5_undo_54, pX5_undo_55, pX5_undo_58, nI_add, pk_mul, xn_sub, xn_and, xn_or, xn_xor, xn_shl, xn_shr, xn_lt, xn_le, xn_eq, xrf_some, xup_eq, xup_ne, xrow_eq, xrow_ne, Option.toList_some, Option.toList_none, List.singleton_append, List.nil_append, List.cons_append, xnl_n, xnl_i, xnl_r, Nat.zero_add, Nat.add_zero, ↓reduceIte, Nat.reduceEqDiff, Nat.reduceLeDiff, Nat.reduceAdd, Nat.reduceMul, Nat.reduceLT, Nat.one_ne_zero, eq_self, not_true_eq_false, not_false_eq_true, and_self, k0, r1, r2, r3, r5, r6, r7, r9, r10, r14, h, hw4]
        rw [xup_cp rfl (by omega)]
        exact ih2
    have hl := loop 502 0 rfl
    rw [cpf_0, xrow_self] at hl
    simp (disch := (first | assumption | exact xnl_i _ | exact xnl_r _ | exact xnl_n | exact Bool.toNat_lt _ | exact hb _ | exact hb2 _ | omega | exact Nat.le_of_ble_eq_true rfl | rfl | decide)) only [pX5_undo_0, pX5_undo_1, pX5_undo_2, pX5_undo_5, pX5_undo_6, pX5_undo_9, pX5_undo_12, pX5_undo_14, pX5_undo_15, pX5_undo_16, pX5_undo_16i, pX5_undo_17, pX5_undo_20, pX5_undo_21, pX5_undo_22, pX5_undo_25, pX5_undo_26, nI_add, pk_mul, xn_sub, xn_and, xn_or, xn_xor, xn_shl, xn_shr, xn_lt, xn_le, xn_eq, xrf_some, xup_eq, xup_ne, xrow_eq, xrow_ne, Option.toList_some, Option.toList_none, List.singleton_append, List.nil_append, List.cons_append, xnl_n, xnl_i, xnl_r, Nat.zero_add, Nat.add_zero, ↓reduceIte, Nat.reduceEqDiff, Nat.reduceLeDiff, Nat.reduceAdd, Nat.reduceMul, Nat.reduceLT, Nat.one_ne_zero, eq_self, not_true_eq_false, not_false_eq_true, and_self, k0, r1, r2, r3, r5, r6, r7, r9, r10, r14, g3, h0]
    rw [← hW]
    refine hl.mpr (hQ _ ⟨hS, mset_V, ?_, fun i hi j hj => ?_, fun k hk => ?_, fun k hk hs j hj => ?_, ?_, fun j hj => ?_⟩ (fun a ha => ?_))
    · rw [mset_ne (by omega), hw4]; rfl
    · have hi : i < gu g - 1 := hi
      rw [mset_ne (by omega), hwi _ (by omega)]; exact g4 i (by omega) j hj
    · rw [mset_ne (by omega), hwi _ (by omega)]; exact g5 k hk
    · rw [mset_ne (by omega), hwi _ (by omega)]; exact g6 k hk hs j hj
    · rw [mset_ne (by omega), hw8]; exact g7
    · rw [mset_ne (by omega), hwi _ (by omega)]; exact g8 j hj
    · rw [mset_ne (by omega), hwi _ (by omega)]
theorem m_save {v : Int32} (hR : mRep S V t g) (hQ : ∀ V', mRep S V' t (psave g v).2 → mOut V V' t → Q (some (.int (psave g v).1)) S V') : xC E mX5_save [.ref t, .int v] S V Q := by
  have hR1 : mRep S (xup V t 0 (nI 0)) t g := mRep_up hR (by decide) (by decide)
  have ho1 : mOut V (xup V t 0 (nI 0)) t := mOut_up (by omega)
  have hR1' := hR1
  obtain ⟨hS, hσ, g3, g4, g5, g6, g7, g8⟩ := hR1'
  have hS' := hS; obtain ⟨k0, r1, r2, r3, r5, r6, r7, r9, r10, r14, k1, n1, k2, n2, k3, n3, k4, n4, k5, n5, k6, n6, k7, n7, k8, n8, k9, n9⟩ := hS'
  show xX E mX5_save 0 [some (.ref t), some (.int v), none] [] S V Q
  unfold psave at hQ
  rcases xrng v 0 1 (by decide) (by decide) with ⟨c, _, hc, rfl⟩ | ⟨hn, _⟩
  · have hcond : nI 0 ≤ nI c ∧ nI c ≤ nI 1 := ⟨(xn_le (by decide) (by omega)).mpr (by omega), (xn_le (by omega) (by decide)).mpr hc⟩
    rw [if_pos hcond, ix_n (by omega)] at hQ
    obtain ⟨W, hW⟩ : ∃ W, W = xup V t 0 (nI 0) := ⟨_, rfl⟩
    rw [← hW] at hR1 ho1 hσ g3 g4 g5 g6 g7 g8
    have hv : ∀ i, W (t + 1) i = nI (gσ g i) := hσ
    have loop : ∀ k i, i + k = 502 → (xX E mX5_save 19 [some (.ref t), some (.int (nI c)), some (.int (nI i))] [] S (xrow W (t + 4) (cpf (W (t + 4)) (W (t + 1)) (502 * c) 0 i)) Q ↔ Q (some (.int (nI (gσ g 496)))) S (xup (xrow W (t + 4) (cpf (W (t + 4)) (W (t + 1)) (502 * c) 0 502)) (t + 5) c (nI 1))) := by
      intro k
      induction k with
      | zero =>
        intro i hn
        have hi : i = 502 := by omega
        subst hi
        simp (disch := (first | assumption | exact xnl_i _ | exact xnl_r _ | exact xnl_n | exact Bool.toNat_lt _ | exact hb _ | exact hb2 _ | omega | exact Nat.le_of_ble_eq_true rfl | rfl | decide)) only [pX5_save_0, pX5_save_1, pX5_save_2, pX5_save_5, pX5_save_6, pX5_save_7, pX5_save_8, pX5_save_11, pX5_save_14, pX5_save_16, pX5_save_17, pX5_save_18, pX5_save_19, pX5_save_20, pX5_save_23, pX5_save_26, pX5_save_27, pX5_save_30, pX5_save_33, pX5_save_34, pX5_save_35, pX5_save_36, pX5_save_37, pX5_save_38, pX5_save_41, pX5_save_42, pX5_save_43, pX5_save_44, pX5_save_47, pX5_save_50, pX5_save_51, pX5_save_54, pX5_save_55, pX5_save_56, pX5_save_57, pX5_save_58, pX5_save_61, pX5_save_64, pX5_save_65, nI_add, pk_mul, xn_sub, xn_and, xn_or, xn_xor, xn_shl, xn_shr, xn_lt, xn_le, xn_eq, xrf_some, xup_eq, xup_ne, xrow_eq, xrow_ne, Option.toList_some, Option.toList_none, List.singleton_append, List.nil_append, List.cons_append, xnl_n, xnl_i, xnl_r, Nat.zero_add, Nat.add_zero, ↓reduceIte, Nat.reduceEqDiff, Nat.reduceLeDiff, Nat.reduceAdd, Nat.reduceMul, Nat.reduceLT, Nat.one_ne_zero, eq_self, not_true_eq_false, not_false_eq_true, and_self, k0, r1, r2, r3, r5, r6, r7, r9, r10, r14, hv]
      | succ k ih =>
        intro i hn
        have h : ¬ 502 ≤ i := by omega
        have ih2 := ih (i + 1) (by omega)
        rw [pX5_save_19]
        simp (disch := (first | assumption | exact xnl_i _ | exact xnl_r _ | exact xnl_n | exact Bool.toNat_lt _ | exact hb _ | exact hb2 _ | omega | exact Nat.le_of_ble_eq_true rfl | rfl | decide)) only [pX5_save_0, pX5_save_1, pX5_save_2, pX5_save_5, pX5_save_6, pX5_save_7, pX5_save_8, pX5_save_11, pX5_save_14, pX5_save_16, pX5_save_17, pX5_save_18, pX5_save_20, pX5_save_23, pX5_save_26, pX5_save_27, pX5_save_30, pX5_save_33, pX5_save_34, pX5_save_35, pX5_save_36, pX5_save_37, pX5_save_38, pX5_save_41, pX5_save_42, pX5_save_43, pX5_save_44, pX5_save_47, pX5_save_50, pX5_save_51, pX5_save_54, pX5_save_55, pX5_save_56, pX5_save_57, pX5_save_58, pX5_save_61, pX5_save_64, pX5_save_65, nI_add, pk_mul, xn_sub, xn_and, xn_or, xn_xor, xn_shl, xn_shr, xn_lt, xn_le, xn_eq, xrf_some, xup_eq, xup_ne, xrow_eq, xrow_ne, Option.toList_some, Option.toList_none, List.singleton_append, List.nil_append, List.cons_append, xnl_n, xnl_i, xnl_r, Nat.zero_add, Nat.add_zero, ↓reduceIte, Nat.reduceEqDiff, Nat.reduceLeDiff, Nat.reduceAdd, Nat.reduceMul, Nat.reduceLT, Nat.one_ne_zero, eq_self, not_true_eq_false, not_false_eq_true, and_self, k0, r1, r2, r3, r5, r6, r7, r9, r10, r14, h, hv]
        rw [xup_cp (by rw [Nat.zero_add, hv]) (by omega)]
        exact ih2
    have hl := loop 502 0 rfl
    rw [cpf_0, xrow_self] at hl
    simp (disch := (first | assumption | exact xnl_i _ | exact xnl_r _ | exact xnl_n | exact Bool.toNat_lt _ | exact hb _ | exact hb2 _ | omega | exact Nat.le_of_ble_eq_true rfl | rfl | decide)) only [pX5_save_0, pX5_save_1, pX5_save_2, pX5_save_5, pX5_save_6, pX5_save_7, pX5_save_8, pX5_save_11, pX5_save_14, pX5_save_16, pX5_save_17, pX5_save_18, nI_add, pk_mul, xn_sub, xn_and, xn_or, xn_xor, xn_shl, xn_shr, xn_lt, xn_le, xn_eq, xrf_some, xup_eq, xup_ne, xrow_eq, xrow_ne, Option.toList_some, Option.toList_none, List.singleton_append, List.nil_append, List.cons_append, xnl_n, xnl_i, xnl_r, Nat.zero_add, Nat.add_zero, ↓reduceIte, Nat.reduceEqDiff, Nat.reduceLeDiff, Nat.reduceAdd, Nat.reduceMul, Nat.reduceLT, Nat.one_ne_zero, eq_self, not_true_eq_false, not_false_eq_true, and_self, k0, r1, r2, r3, r5, r6, r7, r9, r10, r14, s_in, hcond]
    rw [← hW]
    refine hl.mpr (hQ _ ⟨hS, fun i => ?_, ?_, fun i hi j hj => ?_, fun k hk => ?_, fun k hk hs j hj => ?_, ?_, fun j hj => ?_⟩ (mOut_t ho1 (mOut_t (mOut_row (by omega)) (mOut_up (by omega)))))
    · rw [xup_ne (by omega), xrow_ne (by omega)]; exact hv i
    · rw [xup_ne (by omega), xrow_ne (by omega)]; exact g3
    · rw [xup_ne (by omega), xrow_ne (by omega)]; exact g4 i hi j hj
    · show _ = nI (if k = c then true else gis g k).toNat
      by_cases hkc : k = c
      · subst hkc; rw [xup_eq, if_pos rfl]; rfl
      · rw [xup_ne (by omega), xrow_ne (by omega), if_neg hkc]; exact g5 k hk
    · show _ = nI ((if k = c then gσ g else gsv g k) j)
      have hs : (if k = c then true else gis g k) = true := hs
      rw [xup_ne (by omega), xrow_eq]
      by_cases hkc : k = c
      · subst hkc; rw [if_pos rfl, cpf_in (by omega) (by omega), hv]; congr 2; omega
      · rw [if_neg hkc] at hs ⊢
        rw [cpf_out (by omega)]; exact g6 k hk hs j hj
    · rw [xup_ne (by omega), xrow_ne (by omega)]; exact g7
    · rw [xup_ne (by omega), xrow_ne (by omega)]; exact g8 j hj
  · rw [if_neg hn] at hQ
    simp (disch := (first | assumption | exact xnl_i _ | exact xnl_r _ | exact xnl_n | exact Bool.toNat_lt _ | exact hb _ | exact hb2 _ | omega | exact Nat.le_of_ble_eq_true rfl | rfl | decide)) only [pX5_save_0, pX5_save_1, pX5_save_2, pX5_save_5, pX5_save_6, pX5_save_7, pX5_save_8, pX5_save_11, pX5_save_14, pX5_save_16, nI_add, pk_mul, xn_sub, xn_and, xn_or, xn_xor, xn_shl, xn_shr, xn_lt, xn_le, xn_eq, xrf_some, xup_eq, xup_ne, xrow_eq, xrow_ne, Option.toList_some, Option.toList_none, List.singleton_append, List.nil_append, List.cons_append, xnl_n, xnl_i, xnl_r, Nat.zero_add, Nat.add_zero, ↓reduceIte, Nat.reduceEqDiff, Nat.reduceLeDiff, Nat.reduceAdd, Nat.reduceMul, Nat.reduceLT, Nat.one_ne_zero, eq_self, not_true_eq_false, not_false_eq_true, and_self, k0, r1, r2, r3, r5, r6, r7, r9, r10, r14, s_in, hn]
    exact hQ _ hR1 ho1
theorem m_restore {v : Int32} (hR : mRep S V t g) (hG : gG g) (hQ : ∀ V', mRep S V' t (prestore g v).2 → mOut V V' t → Q (some (.int (prestore g v).1)) S V') : xC E mX5_restore [.ref t, .int v] S V Q := by
  have hR1 : mRep S (xup V t 0 (nI 0)) t g := mRep_up hR (by decide) (by decide)
  have ho1 : mOut V (xup V t 0 (nI 0)) t := mOut_up (by omega)
  have hS := hR1.1
  have hS' := hS; obtain ⟨k0, r1, r2, r3, r5, r6, r7, r9, r10, r14, k1, n1, k2, n2, k3, n3, k4, n4, k5, n5, k6, n6, k7, n7, k8, n8, k9, n9⟩ := hS'
  have g5 := hR1.2.2.2.2.1
  show xX E mX5_restore 0 [some (.ref t), some (.int v), none] [] S V Q
  unfold prestore at hQ
  rcases xrng v 0 1 (by decide) (by decide) with ⟨c, _, hc, rfl⟩ | ⟨hn, _⟩
  · have hcond : nI 0 ≤ nI c ∧ nI c ≤ nI 1 := ⟨(xn_le (by decide) (by omega)).mpr (by omega), (xn_le (by omega) (by decide)).mpr hc⟩
    rw [if_pos hcond, ix_n (by omega)] at hQ
    have g5c := g5 c (by omega)
    cases his : gis g c with
    | true =>
      rw [his] at g5c
      rw [xup_ne (by omega)] at g5c
      have g5c : V (t + 5) c = nI 1 := g5c
      rw [if_pos his] at hQ
      obtain ⟨W, hRW, hoW, hrec⟩ := m_records (E := E) hR1 hG
      have hsv := hG.2.2.2.1 c (by omega) his
      obtain ⟨_, hσ, q3, q4, q5, q6, q7, q8⟩ := hRW
      have hv : ∀ i, W (t + 1) i = nI (gσ g i) := hσ
      have hm : xrow W (t + 1) (cpf (W (t + 1)) (W (t + 4)) 0 (502 * c) 502) = mset W t (gsv g c) := mset_cp (fun i hi => by rw [hv, hG.1.1.2.1 i hi]) hsv.1.2.1 (fun j hj => by rw [Nat.add_comm j]; exact q6 c (by omega) his j hj)
      have loop : ∀ k i, i + k = 502 → (xX E mX5_restore 35 [some (.ref t), some (.int (nI c)), some (.int (nI i))] [] S (xrow W (t + 1) (cpf (W (t + 1)) (W (t + 4)) 0 (502 * c) i)) Q ↔ Q (some (.int (nI (gsv g c 496)))) S (mset W t (gsv g c))) := by
        intro k
        induction k with
        | zero =>
          intro i hn
          have hi : i = 502 := by omega
          subst hi
          simp (disch := (first | assumption | exact xnl_i _ | exact xnl_r _ | exact xnl_n | exact Bool.toNat_lt _ | exact hb _ | exact hb2 _ | omega | exact Nat.le_of_ble_eq_true rfl | rfl | decide)) only [pX5_restore_35, pX5_restore_36, pX5_restore_39, pX5_restore_66, pX5_restore_67, pX5_restore_70, pX5_restore_73, pX5_restore_74, nI_add, pk_mul, xn_sub, xn_and, xn_or, xn_xor, xn_shl, xn_shr, xn_lt, xn_le, xn_eq, xrf_some, xup_eq, xup_ne, xrow_eq, xrow_ne, Option.toList_some, Option.toList_none, List.singleton_append, List.nil_append, List.cons_append, xnl_n, xnl_i, xnl_r, Nat.zero_add, Nat.add_zero, ↓reduceIte, Nat.reduceEqDiff, Nat.reduceLeDiff, Nat.reduceAdd, Nat.reduceMul, Nat.reduceLT, Nat.one_ne_zero, eq_self, not_true_eq_false, not_false_eq_true, and_self, k0, r1, r2, r3, r5, r6, r7, r9, r10, r14, hm, mset_1]
        | succ k ih =>
          intro i hn
          have h : ¬ 502 ≤ i := by omega
          have ih2 := ih (i + 1) (by omega)
          rw [pX5_restore_35]
          simp (disch := (first | assumption | exact xnl_i _ | exact xnl_r _ | exact xnl_n | exact Bool.toNat_lt _ | exact hb _ | exact hb2 _ | omega | exact Nat.le_of_ble_eq_true rfl | rfl | decide)) only [pX5_restore_36, pX5_restore_39, pX5_restore_42, pX5_restore_43, pX5_restore_46, pX5_restore_47, pX5_restore_48, pX5_restore_51, pX5_restore_54, pX5_restore_55, pX5_restore_56, pX5_restore_57, pX5_restore_58, pX5_restore_59, pX5_restore_60, pX5_restore_63, nI_add, pk_mul, xn_sub, xn_and, xn_or, xn_xor, xn_shl, xn_shr, xn_lt, xn_le, xn_eq, xrf_some, xup_eq, xup_ne, xrow_eq, xrow_ne, Option.toList_some, Option.toList_none, List.singleton_append, List.nil_append, List.cons_append, xnl_n, xnl_i, xnl_r, Nat.zero_add, Nat.add_zero, ↓reduceIte, Nat.reduceEqDiff, Nat.reduceLeDiff, Nat.reduceAdd, Nat.reduceMul, Nat.reduceLT, Nat.one_ne_zero, eq_self, not_true_eq_false, not_false_eq_true, and_self, k0, r1, r2, r3, r5, r6, r7, r9, r10, r14, h]
          rw [xup_cp rfl (by omega)]
          exact ih2
      have hl := loop 502 0 rfl
      rw [cpf_0, xrow_self] at hl
      simp (disch := (first | assumption | exact xnl_i _ | exact xnl_r _ | exact xnl_n | exact Bool.toNat_lt _ | exact hb _ | exact hb2 _ | omega | exact Nat.le_of_ble_eq_true rfl | rfl | decide)) only [pX5_restore_0, pX5_restore_1, pX5_restore_2, pX5_restore_5, pX5_restore_6, pX5_restore_7, pX5_restore_8, pX5_restore_11, pX5_restore_14, pX5_restore_16, pX5_restore_17, pX5_restore_18, pX5_restore_21, pX5_restore_22, pX5_restore_23, pX5_restore_26, pX5_restore_28, pX5_restore_29, pX5_restore_30, pX5_restore_33, pX5_restore_34, nI_add, pk_mul, xn_sub, xn_and, xn_or, xn_xor, xn_shl, xn_shr, xn_lt, xn_le, xn_eq, xrf_some, xup_eq, xup_ne, xrow_eq, xrow_ne, Option.toList_some, Option.toList_none, List.singleton_append, List.nil_append, List.cons_append, xnl_n, xnl_i, xnl_r, Nat.zero_add, Nat.add_zero, ↓reduceIte, Nat.reduceEqDiff, Nat.reduceLeDiff, Nat.reduceAdd, Nat.reduceMul, Nat.reduceLT, Nat.one_ne_zero, eq_self, not_true_eq_false, not_false_eq_true, and_self, k0, r1, r2, r3, r5, r6, r7, r9, r10, r14, s_in, hcond, g5c, hrec]
      exact hl.mpr (hQ _ (mRep_set ⟨hS, hσ, q3, q4, q5, q6, q7, q8⟩) (mOut_t ho1 (mOut_t hoW mOut_set)))
    | false =>
      rw [his] at g5c
      rw [xup_ne (by omega)] at g5c
      have g5c : V (t + 5) c = nI 0 := g5c
      rw [if_neg (by rw [his]; decide)] at hQ
      simp (disch := (first | assumption | exact xnl_i _ | exact xnl_r _ | exact xnl_n | exact Bool.toNat_lt _ | exact hb _ | exact hb2 _ | omega | exact Nat.le_of_ble_eq_true rfl | rfl | decide)) only [pX5_restore_0, pX5_restore_1, pX5_restore_2, pX5_restore_5, pX5_restore_6, pX5_restore_7, pX5_restore_8, pX5_restore_11, pX5_restore_14, pX5_restore_16, pX5_restore_17, pX5_restore_18, pX5_restore_21, pX5_restore_22, pX5_restore_23, pX5_restore_26, pX5_restore_28, nI_add, pk_mul, xn_sub, xn_and, xn_or, xn_xor, xn_shl, xn_shr, xn_lt, xn_le, xn_eq, xrf_some, xup_eq, xup_ne, xrow_eq, xrow_ne, Option.toList_some, Option.toList_none, List.singleton_append, List.nil_append, List.cons_append, xnl_n, xnl_i, xnl_r, Nat.zero_add, Nat.add_zero, ↓reduceIte, Nat.reduceEqDiff, Nat.reduceLeDiff, Nat.reduceAdd, Nat.reduceMul, Nat.reduceLT, Nat.one_ne_zero, eq_self, not_true_eq_false, not_false_eq_true, and_self, k0, r1, r2, r3, r5, r6, r7, r9, r10, r14, s_in, hcond, g5c]
      exact hQ _ hR1 ho1
  · rw [if_neg hn] at hQ
    simp (disch := (first | assumption | exact xnl_i _ | exact xnl_r _ | exact xnl_n | exact Bool.toNat_lt _ | exact hb _ | exact hb2 _ | omega | exact Nat.le_of_ble_eq_true rfl | rfl | decide)) only [pX5_restore_0, pX5_restore_1, pX5_restore_2, pX5_restore_5, pX5_restore_6, pX5_restore_7, pX5_restore_8, pX5_restore_11, pX5_restore_14, pX5_restore_16, nI_add, pk_mul, xn_sub, xn_and, xn_or, xn_xor, xn_shl, xn_shr, xn_lt, xn_le, xn_eq, xrf_some, xup_eq, xup_ne, xrow_eq, xrow_ne, Option.toList_some, Option.toList_none, List.singleton_append, List.nil_append, List.cons_append, xnl_n, xnl_i, xnl_r, Nat.zero_add, Nat.add_zero, ↓reduceIte, Nat.reduceEqDiff, Nat.reduceLeDiff, Nat.reduceAdd, Nat.reduceMul, Nat.reduceLT, Nat.one_ne_zero, eq_self, not_true_eq_false, not_false_eq_true, and_self, k0, r1, r2, r3, r5, r6, r7, r9, r10, r14, s_in, hn]
    exact hQ _ hR1 ho1
end MUN
