/-! ===== the reference: slots that pass, and what if ===== -/
def pfst (P : Nat → Bool) : Nat → Nat → Option Nat
  | 0, a => if P a = true then some a else none
  | k + 1, a => if P a = true then some a else pfst P k (a + 1)
def plast (σ : Nat → Nat) : Nat → Int32
  | 0 => -6
  | i + 1 => rv (pslotR (pslots i σ))
def pstopR (σ : Nat → Nat) (k : Nat) : Bool := decide (pin (pslots k σ) 0 = 255) || pstuck (pslots k σ)
def prunN (σ : Nat → Nat) : Nat := (pfst (pstopR σ) 1000 0).getD 1000
def puntil (σ : Nat → Nat) (m : Nat) : Option Nat := pfst (fun k => decide (pin (pslots k σ) 0 &&& m = m)) 1000 0
def pstep (g : pG) (v : Int32) : pR := if nI 1 ≤ v ∧ v ≤ nI 200 then (if 100000 < gσ g 496 + ix v then (-4, g) else (plast (gσ g) (ix v), gset (grec g) (pslots (ix v) (gσ g)))) else (-2, g)
def prun (g : pG) : pR := if 99000 < gσ g 496 then (-4, g) else (nI (prunN (gσ g)), gset (grec g) (pslots (prunN (gσ g)) (gσ g)))
def pleft (g : pG) : pR := (rv (puntil (gσ g) 255), g)
def pleftIf (g : pG) (a b v : Int32) : pR := if (nI 0 ≤ a ∧ a ≤ nI 7) ∧ (nI 0 ≤ b ∧ b ≤ nI 7) then (if nI 0 ≤ v ∧ v ≤ nI 9 then (rv (puntil (su (gσ g) (62 * ix b + 3) (ix v)) (2 ^ ix a)), g) else (-2, g)) else (-1, g)
def psumB (g : pG) (a v : Int32) : pR := if nI 0 ≤ a ∧ a ≤ nI 7 then (if nI 1 ≤ v ∧ v ≤ nI 200 then (nI (pslots (ix v) (gσ g) (62 * ix a + 2)), g) else (-2, g)) else (-1, g)
theorem pfst_le {P : Nat → Bool} : ∀ {k a r}, pfst P k a = some r → a ≤ r ∧ r ≤ a + k ∧ P r = true := by
  intro k
  induction k with
  | zero =>
    intro a r h
    unfold pfst at h
    split at h
    · rename_i h2; cases h; exact ⟨Nat.le_refl _, Nat.le_refl _, h2⟩
    · cases h
  | succ k ih =>
    intro a r h
    unfold pfst at h
    split at h
    · rename_i h2; cases h; exact ⟨Nat.le_refl _, by omega, h2⟩
    · obtain ⟨h1, h2, h3⟩ := ih h; exact ⟨by omega, by omega, h3⟩
theorem prunN_le (σ : Nat → Nat) : prunN σ ≤ 1000 := by
  unfold prunN
  cases h : pfst (pstopR σ) 1000 0 with
  | none => exact Nat.le_refl _
  | some r => have := pfst_le h; show r ≤ 1000; omega
theorem ctx_n {c : Nat} (h : c < 8) : nI 0 ≤ nI c ∧ nI c ≤ nI 7 := ⟨(xn_le (by decide) (by omega)).mpr (by omega), (xn_le (by omega) (by decide)).mpr (by omega)⟩
theorem rng_n {c lo hi : Nat} (h1 : lo ≤ c) (h2 : c ≤ hi) (h : hi < 2147483648) : nI lo ≤ nI c ∧ nI c ≤ nI hi := ⟨(xn_le (by omega) (by omega)).mpr h1, (xn_le (by omega) h).mpr h2⟩
section MST2
variable {E : Nat × Nat × Nat} {S : xSh} {V V' V2 : xV} {Q : Option Value → xSh → xV → Prop} {t : Nat} {g : pG}
theorem m_slot {σ : Nat → Nat} {n : Nat} (hS : mShape S t) (hσ : mV V t σ) (hg : gs σ n) (hn : n < 200000) : ∃ V', mV V' t (pslot σ) ∧ mFr V V' t ∧ ∀ Q : Option Value → xSh → xV → Prop, xC E mX5_slot [.ref t] S V Q ↔ Q (some (.int (rv (pslotR σ)))) S V' :=
  s_slot hS hσ (gs_wf hg) (by have := hg.2; omega)
theorem s_until {σ : Nat → Nat} {m : Nat} (hS : mShape S t) (hσ : mV V t σ) (hg : gs σ 100000) (hm : m < 256) (hQ : ∀ V' τ, mV V' t τ → gs τ 101000 → mFr V V' t → Q (some (.int (rv (puntil σ m)))) S V') : xC E mX5_until [.ref t, .int (nI m)] S V Q := by
  have hS' := hS; obtain ⟨k0, r1, r2, r3, r5, r6, r7, r9, r10, r14, k1, n1, k2, n2, k3, n3, k4, n4, k5, n5, k6, n6, k7, n7, k8, n8, k9, n9⟩ := hS'
  have loop : ∀ k i W, i + k = 1000 → mV W t (pslots i σ) → mFr V W t → (∀ V' τ, mV V' t τ → gs τ 101000 → mFr V V' t → Q (some (.int (rv (pfst (fun k => decide (pin (pslots k σ) 0 &&& m = m)) k i)))) S V') → xX E mX5_until 2 [some (.ref t), some (.int (nI m)), some (.int (nI i))] [] S W Q := by
    intro k
    induction k with
    | zero =>
      intro i W hn hW hf hQ
      have hgi := (pslots_gs hg i (by omega)).1
      have hi : i = 1000 := by omega
      subst hi
      have hb2 : pin (pslots 1000 σ) 0 &&& m < 2147483648 := Nat.lt_of_le_of_lt Nat.and_le_right (by omega)
      have hq := hQ W _ hW hgi hf
      unfold pfst at hq
      by_cases h : pin (pslots 1000 σ) 0 &&& m = m
      · simp only [h, decide_true, if_true] at hq
        simp (disch := (first | assumption | exact xnl_i _ | exact xnl_r _ | exact xnl_n | exact Bool.toNat_lt _ | exact hb _ | exact hb2 _ | omega | exact Nat.le_of_ble_eq_true rfl | rfl | decide)) only [pX5_until_2, pX5_until_3, pX5_until_4, pX5_until_7, pX5_until_8, pX5_until_9, pX5_until_10, pX5_until_13, pX5_until_14, pX5_until_17, pX5_until_20, pX5_until_22, pX5_until_23, pX5_until_24, pX5_until_27, pX5_until_28, pX5_until_31, pX5_until_34, pX5_until_35, nI_add, pk_mul, xn_sub, xn_and, xn_or, xn_xor, xn_shl, xn_shr, xn_lt, xn_le, xn_eq, xrf_some, xup_eq, xup_ne, xrow_eq, xrow_ne, Option.toList_some, Option.toList_none, List.singleton_append, List.nil_append, List.cons_append, xnl_n, xnl_i, xnl_r, Nat.zero_add, Nat.add_zero, ↓reduceIte, Nat.reduceEqDiff, Nat.reduceLeDiff, Nat.reduceAdd, Nat.reduceMul, Nat.reduceLT, Nat.one_ne_zero, eq_self, not_true_eq_false, not_false_eq_true, and_self, k0, r1, r2, r3, r5, r6, r7, r9, r10, r14, s_inState hS hW (gs_wf hgi), h]
        exact hq
      · simp only [h, decide_false, Bool.false_eq_true, if_false] at hq
        simp (disch := (first | assumption | exact xnl_i _ | exact xnl_r _ | exact xnl_n | exact Bool.toNat_lt _ | exact hb _ | exact hb2 _ | omega | exact Nat.le_of_ble_eq_true rfl | rfl | decide)) only [pX5_until_2, pX5_until_3, pX5_until_4, pX5_until_7, pX5_until_8, pX5_until_9, pX5_until_10, pX5_until_13, pX5_until_14, pX5_until_17, pX5_until_20, pX5_until_22, nI_add, pk_mul, xn_sub, xn_and, xn_or, xn_xor, xn_shl, xn_shr, xn_lt, xn_le, xn_eq, xrf_some, xup_eq, xup_ne, xrow_eq, xrow_ne, Option.toList_some, Option.toList_none, List.singleton_append, List.nil_append, List.cons_append, xnl_n, xnl_i, xnl_r, Nat.zero_add, Nat.add_zero, ↓reduceIte, Nat.reduceEqDiff, Nat.reduceLeDiff, Nat.reduceAdd, Nat.reduceMul, Nat.reduceLT, Nat.one_ne_zero, eq_self, not_true_eq_false, not_false_eq_true, and_self, k0, r1, r2, r3, r5, r6, r7, r9, r10, r14, s_inState hS hW (gs_wf hgi), h]
        exact hq
    | succ k ih =>
      intro i W hn hW hf hQ
      have hgi := (pslots_gs hg i (by omega)).1
      have hb2 : pin (pslots i σ) 0 &&& m < 2147483648 := Nat.lt_of_le_of_lt Nat.and_le_right (by omega)
      unfold pfst at hQ
      by_cases h : pin (pslots i σ) 0 &&& m = m
      · simp only [h, decide_true, if_true] at hQ
        have hq := hQ W _ hW (by obtain ⟨q1, q2⟩ := hgi; exact ⟨q1, by omega⟩) hf
        simp (disch := (first | assumption | exact xnl_i _ | exact xnl_r _ | exact xnl_n | exact Bool.toNat_lt _ | exact hb _ | exact hb2 _ | omega | exact Nat.le_of_ble_eq_true rfl | rfl | decide)) only [pX5_until_2, pX5_until_3, pX5_until_4, pX5_until_7, pX5_until_8, pX5_until_9, pX5_until_10, pX5_until_34, pX5_until_35, nI_add, pk_mul, xn_sub, xn_and, xn_or, xn_xor, xn_shl, xn_shr, xn_lt, xn_le, xn_eq, xrf_some, xup_eq, xup_ne, xrow_eq, xrow_ne, Option.toList_some, Option.toList_none, List.singleton_append, List.nil_append, List.cons_append, xnl_n, xnl_i, xnl_r, Nat.zero_add, Nat.add_zero, ↓reduceIte, Nat.reduceEqDiff, Nat.reduceLeDiff, Nat.reduceAdd, Nat.reduceMul, Nat.reduceLT, Nat.one_ne_zero, eq_self, not_true_eq_false, not_false_eq_true, and_self, k0, r1, r2, r3, r5, r6, r7, r9, r10, r14, s_inState hS hW (gs_wf hgi), h]
        exact hq
      · simp only [h, decide_false, Bool.false_eq_true, if_false] at hQ
        obtain ⟨W2, h1, h2, h3⟩ := m_slot (E := E) hS hW hgi (by omega)
        have ih2 := ih (i + 1) W2 (by omega) h1 (mFr_t hf h2) hQ
        have hi : ¬ i = 1000 := by omega
        rw [pX5_until_2]
        simp (disch := (first | assumption | exact xnl_i _ | exact xnl_r _ | exact xnl_n | exact Bool.toNat_lt _ | exact hb _ | exact hb2 _ | omega | exact Nat.le_of_ble_eq_true rfl | rfl | decide)) only [pX5_until_3, pX5_until_4, pX5_until_7, pX5_until_8, pX5_until_9, pX5_until_10, pX5_until_13, pX5_until_14, pX5_until_17, pX5_until_20, pX5_until_22, pX5_until_23, pX5_until_24, pX5_until_27, pX5_until_28, pX5_until_31, nI_add, pk_mul, xn_sub, xn_and, xn_or, xn_xor, xn_shl, xn_shr, xn_lt, xn_le, xn_eq, xrf_some, xup_eq, xup_ne, xrow_eq, xrow_ne, Option.toList_some, Option.toList_none, List.singleton_append, List.nil_append, List.cons_append, xnl_n, xnl_i, xnl_r, Nat.zero_add, Nat.add_zero, ↓reduceIte, Nat.reduceEqDiff, Nat.reduceLeDiff, Nat.reduceAdd, Nat.reduceMul, Nat.reduceLT, Nat.one_ne_zero, eq_self, not_true_eq_false, not_false_eq_true, and_self, k0, r1, r2, r3, r5, r6, r7, r9, r10, r14, s_inState hS hW (gs_wf hgi), h, hi, h3]
        exact ih2
  show xX E mX5_until 0 [some (.ref t), some (.int (nI m)), none] [] S V Q
  simp (disch := (first | assumption | exact xnl_i _ | exact xnl_r _ | exact xnl_n | exact Bool.toNat_lt _ | exact hb _ | exact hb2 _ | omega | exact Nat.le_of_ble_eq_true rfl | rfl | decide)) only [pX5_until_0, pX5_until_1, nI_add, pk_mul, xn_sub, xn_and, xn_or, xn_xor, xn_shl, xn_shr, xn_lt, xn_le, xn_eq, xrf_some, xup_eq, xup_ne, xrow_eq, xrow_ne, Option.toList_some, Option.toList_none, List.singleton_append, List.nil_append, List.cons_append, xnl_n, xnl_i, xnl_r, Nat.zero_add, Nat.add_zero, ↓reduceIte, Nat.reduceEqDiff, Nat.reduceLeDiff, Nat.reduceAdd, Nat.reduceMul, Nat.reduceLT, Nat.one_ne_zero, eq_self, not_true_eq_false, not_false_eq_true, and_self]
  exact loop 1000 0 V rfl hσ mFr_r hQ
theorem m_step {v : Int32} (hR : mRep S V t g) (hG : gG g) (hQ : ∀ V', mRep S V' t (pstep g v).2 → mOut V V' t → Q (some (.int (pstep g v).1)) S V') : xC E mX5_step [.ref t, .int v] S V Q := by
  have hR1 : mRep S (xup V t 0 (nI 0)) t g := mRep_up hR (by decide) (by decide)
  have ho1 : mOut V (xup V t 0 (nI 0)) t := mOut_up (by omega)
  have hS := hR1.1
  have hS' := hS; obtain ⟨k0, r1, r2, r3, r5, r6, r7, r9, r10, r14, k1, n1, k2, n2, k3, n3, k4, n4, k5, n5, k6, n6, k7, n7, k8, n8, k9, n9⟩ := hS'
  have hv : ∀ i, V (t + 1) i = nI (gσ g i) := hR.2.1
  show xX E mX5_step 0 [some (.ref t), some (.int v), none, none] [] S V Q
  unfold pstep at hQ
  rcases xrng v 1 200 (by decide) (by decide) with ⟨c, hc1, hc, rfl⟩ | ⟨hn, _⟩
  · have hcond := rng_n hc1 hc (by decide)
    rw [if_pos hcond, ix_n (by omega)] at hQ
    have h6 := hG.1.2
    have hs := hG.1
    by_cases h : 100000 < gσ g 496 + c
    · rw [if_pos h] at hQ
      have h' : ¬ gσ g 496 + c ≤ 100000 := by omega
      simp (disch := (first | assumption | exact xnl_i _ | exact xnl_r _ | exact xnl_n | exact Bool.toNat_lt _ | exact hb _ | exact hb2 _ | omega | exact Nat.le_of_ble_eq_true rfl | rfl | decide)) only [pX5_step_0, pX5_step_1, pX5_step_2, pX5_step_5, pX5_step_6, pX5_step_7, pX5_step_10, pX5_step_13, pX5_step_16, pX5_step_18, pX5_step_19, pX5_step_20, pX5_step_23, pX5_step_26, pX5_step_27, pX5_step_28, pX5_step_29, pX5_step_31, pX5_step_34, pX5_step_36, nI_add, pk_mul, xn_sub, xn_and, xn_or, xn_xor, xn_shl, xn_shr, xn_lt, xn_le, xn_eq, xrf_some, xup_eq, xup_ne, xrow_eq, xrow_ne, Option.toList_some, Option.toList_none, List.singleton_append, List.nil_append, List.cons_append, xnl_n, xnl_i, xnl_r, Nat.zero_add, Nat.add_zero, ↓reduceIte, Nat.reduceEqDiff, Nat.reduceLeDiff, Nat.reduceAdd, Nat.reduceMul, Nat.reduceLT, Nat.one_ne_zero, eq_self, not_true_eq_false, not_false_eq_true, and_self, k0, r1, r2, r3, r5, r6, r7, r9, r10, r14, s_in, hcond, hv, h']
      exact hQ _ hR1 ho1
    · rw [if_neg h] at hQ
      have h' : gσ g 496 + c ≤ 100000 := by omega
      obtain ⟨W, hRW, hoW, hrec⟩ := m_records (E := E) hR1 hG
      have hsw : mV W t (gσ g) := hRW.2.1
      have loop : ∀ k i W', i + k = c → mV W' t (pslots i (gσ g)) → mFr W W' t → xX E mX5_step 46 [some (.ref t), some (.int (nI c)), some (.int (plast (gσ g) i)), some (.int (nI i))] [] S W' Q := by
        intro k
        induction k with
        | zero =>
          intro i W' hn hW hf
          have hi : i = c := by omega
          subst hi
          simp (disch := (first | assumption | exact xnl_i _ | exact xnl_r _ | exact xnl_n | exact Bool.toNat_lt _ | exact hb _ | exact hb2 _ | omega | exact Nat.le_of_ble_eq_true rfl | rfl | decide)) only [pX5_step_46, pX5_step_47, pX5_step_48, pX5_step_62, pX5_step_63, nI_add, pk_mul, xn_sub, xn_and, xn_or, xn_xor, xn_shl, xn_shr, xn_lt, xn_le, xn_eq, xrf_some, xup_eq, xup_ne, xrow_eq, xrow_ne, Option.toList_some, Option.toList_none, List.singleton_append, List.nil_append, List.cons_append, xnl_n, xnl_i, xnl_r, Nat.zero_add, Nat.add_zero, ↓reduceIte, Nat.reduceEqDiff, Nat.reduceLeDiff, Nat.reduceAdd, Nat.reduceMul, Nat.reduceLT, Nat.one_ne_zero, eq_self, not_true_eq_false, not_false_eq_true, and_self, Nat.le_refl]
          exact hQ _ (mRep_fr hRW hf hW) (mOut_t ho1 (mOut_t hoW (mOut_fr hf)))
        | succ k ih =>
          intro i W' hn hW hf
          have hgi := (pslots_gs hs i (by omega)).1
          obtain ⟨W2, h1, h2, h3⟩ := m_slot (E := E) hS hW hgi (by omega)
          have ih2 := ih (i + 1) W2 (by omega) h1 (mFr_t hf h2)
          have hi : ¬ c ≤ i := by omega
          rw [pX5_step_46]
          simp (disch := (first | assumption | exact xnl_i _ | exact xnl_r _ | exact xnl_n | exact Bool.toNat_lt _ | exact hb _ | exact hb2 _ | omega | exact Nat.le_of_ble_eq_true rfl | rfl | decide)) only [pX5_step_47, pX5_step_48, pX5_step_51, pX5_step_52, pX5_step_55, pX5_step_56, pX5_step_59, nI_add, pk_mul, xn_sub, xn_and, xn_or, xn_xor, xn_shl, xn_shr, xn_lt, xn_le, xn_eq, xrf_some, xup_eq, xup_ne, xrow_eq, xrow_ne, Option.toList_some, Option.toList_none, List.singleton_append, List.nil_append, List.cons_append, xnl_n, xnl_i, xnl_r, Nat.zero_add, Nat.add_zero, ↓reduceIte, Nat.reduceEqDiff, Nat.reduceLeDiff, Nat.reduceAdd, Nat.reduceMul, Nat.reduceLT, Nat.one_ne_zero, eq_self, not_true_eq_false, not_false_eq_true, and_self, k0, r1, r2, r3, r5, r6, r7, r9, r10, r14, hi, h3]
          exact ih2
      have hl := loop c 0 W (by omega) hsw mFr_r
      simp (disch := (first | assumption | exact xnl_i _ | exact xnl_r _ | exact xnl_n | exact Bool.toNat_lt _ | exact hb _ | exact hb2 _ | omega | exact Nat.le_of_ble_eq_true rfl | rfl | decide)) only [pX5_step_0, pX5_step_1, pX5_step_2, pX5_step_5, pX5_step_6, pX5_step_7, pX5_step_10, pX5_step_13, pX5_step_16, pX5_step_18, pX5_step_19, pX5_step_20, pX5_step_23, pX5_step_26, pX5_step_27, pX5_step_28, pX5_step_29, pX5_step_31, pX5_step_34, pX5_step_36, pX5_step_37, pX5_step_38, pX5_step_41, pX5_step_43, pX5_step_44, pX5_step_45, nI_add, pk_mul, xn_sub, xn_and, xn_or, xn_xor, xn_shl, xn_shr, xn_lt, xn_le, xn_eq, xrf_some, xup_eq, xup_ne, xrow_eq, xrow_ne, Option.toList_some, Option.toList_none, List.singleton_append, List.nil_append, List.cons_append, xnl_n, xnl_i, xnl_r, Nat.zero_add, Nat.add_zero, ↓reduceIte, Nat.reduceEqDiff, Nat.reduceLeDiff, Nat.reduceAdd, Nat.reduceMul, Nat.reduceLT, Nat.one_ne_zero, eq_self, not_true_eq_false, not_false_eq_true, and_self, k0, r1, r2, r3, r5, r6, r7, r9, r10, r14, s_in, hcond, hv, h', hrec]
      exact hl
  · rw [if_neg hn] at hQ
    simp (disch := (first | assumption | exact xnl_i _ | exact xnl_r _ | exact xnl_n | exact Bool.toNat_lt _ | exact hb _ | exact hb2 _ | omega | exact Nat.le_of_ble_eq_true rfl | rfl | decide)) only [pX5_step_0, pX5_step_1, pX5_step_2, pX5_step_5, pX5_step_6, pX5_step_7, pX5_step_10, pX5_step_13, pX5_step_16, pX5_step_18, nI_add, pk_mul, xn_sub, xn_and, xn_or, xn_xor, xn_shl, xn_shr, xn_lt, xn_le, xn_eq, xrf_some, xup_eq, xup_ne, xrow_eq, xrow_ne, Option.toList_some, Option.toList_none, List.singleton_append, List.nil_append, List.cons_append, xnl_n, xnl_i, xnl_r, Nat.zero_add, Nat.add_zero, ↓reduceIte, Nat.reduceEqDiff, Nat.reduceLeDiff, Nat.reduceAdd, Nat.reduceMul, Nat.reduceLT, Nat.one_ne_zero, eq_self, not_true_eq_false, not_false_eq_true, and_self, k0, r1, r2, r3, r5, r6, r7, r9, r10, r14, s_in, hn]
    exact hQ _ hR1 ho1
theorem m_run (hR : mRep S V t g) (hG : gG g) (hQ : ∀ V', mRep S V' t (prun g).2 → mOut V V' t → Q (some (.int (prun g).1)) S V') : xC E mX5_run [.ref t] S V Q := by
  have hR1 : mRep S (xup V t 0 (nI 0)) t g := mRep_up hR (by decide) (by decide)
  have ho1 : mOut V (xup V t 0 (nI 0)) t := mOut_up (by omega)
  have hS := hR1.1
  have hS' := hS; obtain ⟨k0, r1, r2, r3, r5, r6, r7, r9, r10, r14, k1, n1, k2, n2, k3, n3, k4, n4, k5, n5, k6, n6, k7, n7, k8, n8, k9, n9⟩ := hS'
  have hv : ∀ i, V (t + 1) i = nI (gσ g i) := hR.2.1
  have h6 := hG.1.2
  have hs := hG.1
  show xX E mX5_run 0 [some (.ref t), none] [] S V Q
  unfold prun at hQ
  by_cases h : 99000 < gσ g 496
  · rw [if_pos h] at hQ
    have h' : ¬ gσ g 496 ≤ 99000 := by omega
    simp (disch := (first | assumption | exact xnl_i _ | exact xnl_r _ | exact xnl_n | exact Bool.toNat_lt _ | exact hb _ | exact hb2 _ | omega | exact Nat.le_of_ble_eq_true rfl | rfl | decide)) only [pX5_run_0, pX5_run_1, pX5_run_2, pX5_run_5, pX5_run_6, pX5_run_9, pX5_run_12, pX5_run_13, pX5_run_15, pX5_run_18, pX5_run_20, nI_add, pk_mul, xn_sub, xn_and, xn_or, xn_xor, xn_shl, xn_shr, xn_lt, xn_le, xn_eq, xrf_some, xup_eq, xup_ne, xrow_eq, xrow_ne, Option.toList_some, Option.toList_none, List.singleton_append, List.nil_append, List.cons_append, xnl_n, xnl_i, xnl_r, Nat.zero_add, Nat.add_zero, ↓reduceIte, Nat.reduceEqDiff, Nat.reduceLeDiff, Nat.reduceAdd, Nat.reduceMul, Nat.reduceLT, Nat.one_ne_zero, eq_self, not_true_eq_false, not_false_eq_true, and_self, k0, r1, r2, r3, r5, r6, r7, r9, r10, r14, hv, h']
    exact hQ _ hR1 ho1
  · rw [if_neg h] at hQ
    have h' : gσ g 496 ≤ 99000 := by omega
    obtain ⟨W, hRW, hoW, hrec⟩ := m_records (E := E) hR1 hG
    have hsw : mV W t (gσ g) := hRW.2.1
    have loop : ∀ k i W', i + k = 1000 → mV W' t (pslots i (gσ g)) → mFr W W' t → prunN (gσ g) = (pfst (pstopR (gσ g)) k i).getD 1000 → xX E mX5_run 27 [some (.ref t), some (.int (nI i))] [] S W' Q := by
      intro k
      induction k with
      | zero =>
        intro i W' hn hW hf hp
        have hi : i = 1000 := by omega
        subst hi
        have hp2 : prunN (gσ g) = 1000 := by rw [hp]; unfold pfst; split <;> rfl
        simp (disch := (first | assumption | exact xnl_i _ | exact xnl_r _ | exact xnl_n | exact Bool.toNat_lt _ | exact hb _ | exact hb2 _ | omega | exact Nat.le_of_ble_eq_true rfl | rfl | decide)) only [pX5_run_27, pX5_run_28, pX5_run_31, pX5_run_63, pX5_run_64, nI_add, pk_mul, xn_sub, xn_and, xn_or, xn_xor, xn_shl, xn_shr, xn_lt, xn_le, xn_eq, xrf_some, xup_eq, xup_ne, xrow_eq, xrow_ne, Option.toList_some, Option.toList_none, List.singleton_append, List.nil_append, List.cons_append, xnl_n, xnl_i, xnl_r, Nat.zero_add, Nat.add_zero, ↓reduceIte, Nat.reduceEqDiff, Nat.reduceLeDiff, Nat.reduceAdd, Nat.reduceMul, Nat.reduceLT, Nat.one_ne_zero, eq_self, not_true_eq_false, not_false_eq_true, and_self]
        rw [hp2] at hQ
        exact hQ _ (mRep_fr hRW hf hW) (mOut_t ho1 (mOut_t hoW (mOut_fr hf)))
      | succ k ih =>
        intro i W' hn hW hf hp
        have hgi := (pslots_gs hs i (by omega)).1
        have hi : ¬ 1000 ≤ i := by omega
        have hb2 : pin (pslots i (gσ g)) 0 < 2147483648 := bm_lt8 _
        unfold pfst at hp
        by_cases hst : pstopR (gσ g) i = true
        · rw [if_pos hst] at hp
          have hp2 : prunN (gσ g) = i := hp
          rw [hp2] at hQ
          have hq := hQ _ (mRep_fr hRW hf hW) (mOut_t ho1 (mOut_t hoW (mOut_fr hf)))
          unfold pstopR at hst
          by_cases h0 : pin (pslots i (gσ g)) 0 = 255
          · simp (disch := (first | assumption | exact xnl_i _ | exact xnl_r _ | exact xnl_n | exact Bool.toNat_lt _ | exact hb _ | exact hb2 _ | omega | exact Nat.le_of_ble_eq_true rfl | rfl | decide)) only [pX5_run_27, pX5_run_28, pX5_run_31, pX5_run_34, pX5_run_35, pX5_run_36, pX5_run_39, pX5_run_42, pX5_run_63, pX5_run_64, nI_add, pk_mul, xn_sub, xn_and, xn_or, xn_xor, xn_shl, xn_shr, xn_lt, xn_le, xn_eq, xrf_some, xup_eq, xup_ne, xrow_eq, xrow_ne, Option.toList_some, Option.toList_none, List.singleton_append, List.nil_append, List.cons_append, xnl_n, xnl_i, xnl_r, Nat.zero_add, Nat.add_zero, ↓reduceIte, Nat.reduceEqDiff, Nat.reduceLeDiff, Nat.reduceAdd, Nat.reduceMul, Nat.reduceLT, Nat.one_ne_zero, eq_self, not_true_eq_false, not_false_eq_true, and_self, k0, r1, r2, r3, r5, r6, r7, r9, r10, r14, hi, s_inState hS hW (gs_wf hgi), h0]
            exact hq
          · have hst2 : pstuck (pslots i (gσ g)) = true := by simpa [h0] using hst
            simp (disch := (first | assumption | exact xnl_i _ | exact xnl_r _ | exact xnl_n | exact Bool.toNat_lt _ | exact hb _ | exact hb2 _ | omega | exact Nat.le_of_ble_eq_true rfl | rfl | decide)) only [pX5_run_27, pX5_run_28, pX5_run_31, pX5_run_34, pX5_run_35, pX5_run_36, pX5_run_39, pX5_run_42, pX5_run_45, pX5_run_46, pX5_run_49, pX5_run_63, pX5_run_64, nI_add, pk_mul, xn_sub, xn_and, xn_or, xn_xor, xn_shl, xn_shr, xn_lt, xn_le, xn_eq, xrf_some, xup_eq, xup_ne, xrow_eq, xrow_ne, Option.toList_some, Option.toList_none, List.singleton_append, List.nil_append, List.cons_append, xnl_n, xnl_i, xnl_r, Nat.zero_add, Nat.add_zero, ↓reduceIte, Nat.reduceEqDiff, Nat.reduceLeDiff, Nat.reduceAdd, Nat.reduceMul, Nat.reduceLT, Nat.one_ne_zero, eq_self, not_true_eq_false, not_false_eq_true, and_self, k0, r1, r2, r3, r5, r6, r7, r9, r10, r14, hi, s_inState hS hW (gs_wf hgi), h0, s_isStuck hS hW (gs_wf hgi), hst2, Bool.toNat_true]
            exact hq
        · rw [if_neg hst] at hp
          unfold pstopR at hst
          have h0 : ¬ pin (pslots i (gσ g)) 0 = 255 := fun z => hst (by simp [z])
          have hst2 : pstuck (pslots i (gσ g)) = false := by simpa [h0] using hst
          obtain ⟨W2, h1, h2, h3⟩ := m_slot (E := E) hS hW hgi (by omega)
          have ih2 := ih (i + 1) W2 (by omega) h1 (mFr_t hf h2) hp
          rw [pX5_run_27]
          simp (disch := (first | assumption | exact xnl_i _ | exact xnl_r _ | exact xnl_n | exact Bool.toNat_lt _ | exact hb _ | exact hb2 _ | omega | exact Nat.le_of_ble_eq_true rfl | rfl | decide)) only [pX5_run_28, pX5_run_31, pX5_run_34, pX5_run_35, pX5_run_36, pX5_run_39, pX5_run_42, pX5_run_45, pX5_run_46, pX5_run_49, pX5_run_52, pX5_run_53, pX5_run_56, pX5_run_57, pX5_run_60, nI_add, pk_mul, xn_sub, xn_and, xn_or, xn_xor, xn_shl, xn_shr, xn_lt, xn_le, xn_eq, xrf_some, xup_eq, xup_ne, xrow_eq, xrow_ne, Option.toList_some, Option.toList_none, List.singleton_append, List.nil_append, List.cons_append, xnl_n, xnl_i, xnl_r, Nat.zero_add, Nat.add_zero, ↓reduceIte, Nat.reduceEqDiff, Nat.reduceLeDiff, Nat.reduceAdd, Nat.reduceMul, Nat.reduceLT, Nat.one_ne_zero, eq_self, not_true_eq_false, not_false_eq_true, and_self, k0, r1, r2, r3, r5, r6, r7, r9, r10, r14, hi, s_inState hS hW (gs_wf hgi), h0, s_isStuck hS hW (gs_wf hgi), hst2, Bool.toNat_false, h3]
          exact ih2
    have hl := loop 1000 0 W rfl hsw mFr_r rfl
    simp (disch := (first | assumption | exact xnl_i _ | exact xnl_r _ | exact xnl_n | exact Bool.toNat_lt _ | exact hb _ | exact hb2 _ | omega | exact Nat.le_of_ble_eq_true rfl | rfl | decide)) only [pX5_run_0, pX5_run_1, pX5_run_2, pX5_run_5, pX5_run_6, pX5_run_9, pX5_run_12, pX5_run_13, pX5_run_15, pX5_run_18, pX5_run_20, pX5_run_21, pX5_run_22, pX5_run_25, pX5_run_26, nI_add, pk_mul, xn_sub, xn_and, xn_or, xn_xor, xn_shl, xn_shr, xn_lt, xn_le, xn_eq, xrf_some, xup_eq, xup_ne, xrow_eq, xrow_ne, Option.toList_some, Option.toList_none, List.singleton_append, List.nil_append, List.cons_append, xnl_n, xnl_i, xnl_r, Nat.zero_add, Nat.add_zero, ↓reduceIte, Nat.reduceEqDiff, Nat.reduceLeDiff, Nat.reduceAdd, Nat.reduceMul, Nat.reduceLT, Nat.one_ne_zero, eq_self, not_true_eq_false, not_false_eq_true, and_self, k0, r1, r2, r3, r5, r6, r7, r9, r10, r14, hv, h', hrec]
    exact hl
theorem gset_σ : gset g (gσ g) = g := rfl
theorem m_left (hR : mRep S V t g) (hG : gG g) (hQ : ∀ V', mRep S V' t (pleft g).2 → mOut V V' t → Q (some (.int (pleft g).1)) S V') : xC E mX5_slotsLeft [.ref t] S V Q := by
  have hR1 : mRep S (xup V t 0 (nI 0)) t g := mRep_up hR (by decide) (by decide)
  have ho1 : mOut V (xup V t 0 (nI 0)) t := mOut_up (by omega)
  have hS := hR1.1
  have hS' := hS; obtain ⟨k0, r1, r2, r3, r5, r6, r7, r9, r10, r14, k1, n1, k2, n2, k3, n3, k4, n4, k5, n5, k6, n6, k7, n7, k8, n8, k9, n9⟩ := hS'
  obtain ⟨W, hRW, hoW, h2, hpa⟩ := m_putAside (E := E) hR1
  show xX E mX5_slotsLeft 0 [some (.ref t), none] [] S V Q
  simp (disch := (first | assumption | exact xnl_i _ | exact xnl_r _ | exact xnl_n | exact Bool.toNat_lt _ | exact hb _ | exact hb2 _ | omega | exact Nat.le_of_ble_eq_true rfl | rfl | decide)) only [pX5_slotsLeft_0, pX5_slotsLeft_1, pX5_slotsLeft_2, pX5_slotsLeft_5, pX5_slotsLeft_6, pX5_slotsLeft_9, pX5_slotsLeft_10, nI_add, pk_mul, xn_sub, xn_and, xn_or, xn_xor, xn_shl, xn_shr, xn_lt, xn_le, xn_eq, xrf_some, xup_eq, xup_ne, xrow_eq, xrow_ne, Option.toList_some, Option.toList_none, List.singleton_append, List.nil_append, List.cons_append, xnl_n, xnl_i, xnl_r, Nat.zero_add, Nat.add_zero, ↓reduceIte, Nat.reduceEqDiff, Nat.reduceLeDiff, Nat.reduceAdd, Nat.reduceMul, Nat.reduceLT, Nat.one_ne_zero, eq_self, not_true_eq_false, not_false_eq_true, and_self, k0, r1, r2, r3, r5, r6, r7, r9, r10, r14, hpa]
  rw [pX5_slotsLeft_13 k0 (by decide)]
  refine s_until hS hRW.2.1 hG.1 (by decide) (fun V' τ hτ hgt hf => ?_)
  have h2' : ∀ j, j < 502 → V' (t + 2) j = nI (gσ g j) := fun j hj => by rw [hf (t + 2) (by omega) (by omega) (by omega)]; exact h2 j hj
  simp (disch := (first | assumption | exact xnl_i _ | exact xnl_r _ | exact xnl_n | exact Bool.toNat_lt _ | exact hb _ | exact hb2 _ | omega | exact Nat.le_of_ble_eq_true rfl | rfl | decide)) only [pX5_slotsLeft_16, pX5_slotsLeft_17, pX5_slotsLeft_18, pX5_slotsLeft_21, pX5_slotsLeft_22, nI_add, pk_mul, xn_sub, xn_and, xn_or, xn_xor, xn_shl, xn_shr, xn_lt, xn_le, xn_eq, xrf_some, xup_eq, xup_ne, xrow_eq, xrow_ne, Option.toList_some, Option.toList_none, List.singleton_append, List.nil_append, List.cons_append, xnl_n, xnl_i, xnl_r, Nat.zero_add, Nat.add_zero, ↓reduceIte, Nat.reduceEqDiff, Nat.reduceLeDiff, Nat.reduceAdd, Nat.reduceMul, Nat.reduceLT, Nat.one_ne_zero, eq_self, not_true_eq_false, not_false_eq_true, and_self, k0, r1, r2, r3, r5, r6, r7, r9, r10, r14, s_takeBack hS hτ hgt.1.2.1 hG.1.1.2.1 h2']
  exact hQ _ (mRep_fr hRW (mFr_t hf mFr_set) mset_V) (mOut_t ho1 (mOut_t hoW (mOut_t (mOut_fr hf) mOut_set)))
theorem m_leftIf {a b v : Int32} (hR : mRep S V t g) (hG : gG g) (hQ : ∀ V', mRep S V' t (pleftIf g a b v).2 → mOut V V' t → Q (some (.int (pleftIf g a b v).1)) S V') : xC E mX5_leftIf [.ref t, .int a, .int b, .int v] S V Q := by
  have hR1 : mRep S (xup V t 0 (nI 0)) t g := mRep_up hR (by decide) (by decide)
  have ho1 : mOut V (xup V t 0 (nI 0)) t := mOut_up (by omega)
  have hS := hR1.1
  have hS' := hS; obtain ⟨k0, r1, r2, r3, r5, r6, r7, r9, r10, r14, k1, n1, k2, n2, k3, n3, k4, n4, k5, n5, k6, n6, k7, n7, k8, n8, k9, n9⟩ := hS'
  show xX E mX5_leftIf 0 [some (.ref t), some (.int a), some (.int b), some (.int v), none] [] S V Q
  unfold pleftIf at hQ
  rcases xrng a 0 7 (by decide) (by decide) with ⟨c, _, hc, rfl⟩ | ⟨hn, _⟩
  · have hcc := ctx_n (show c < 8 by omega)
    rcases xrng b 0 7 (by decide) (by decide) with ⟨d, _, hd, rfl⟩ | ⟨hn, _⟩
    · have hcd := ctx_n (show d < 8 by omega)
      rw [if_pos ⟨hcc, hcd⟩, ix_n (by omega), ix_n (by omega)] at hQ
      rcases xrng v 0 9 (by decide) (by decide) with ⟨x, _, hx, rfl⟩ | ⟨hn, _⟩
      · have hcond := rng_n (Nat.zero_le x) hx (by decide)
        rw [if_pos hcond, ix_n (by omega)] at hQ
        have hp2 : 2 ^ c < 256 := pow_lt256 hc
        have h231 : 1 * 2 ^ c < 4294967296 := by omega
        obtain ⟨W, hRW, hoW, h2, hpa⟩ := m_putAside (E := E) hR1
        rw [← mset_self hRW.2.1] at hpa
        have hgs : gs (su (gσ g) (62 * d + 3) x) 100000 := ⟨by rw [su_ne (by omega)]; exact wfA_3 hG.1.1 (by omega) hx, by rw [su_ne (by omega)]; exact hG.1.2⟩
        simp (disch := (first | assumption | exact xnl_i _ | exact xnl_r _ | exact xnl_n | exact Bool.toNat_lt _ | exact hb _ | exact hb2 _ | omega | exact Nat.le_of_ble_eq_true rfl | rfl | decide)) only [pX5_leftIf_0, pX5_leftIf_1, pX5_leftIf_2, pX5_leftIf_5, pX5_leftIf_6, pX5_leftIf_9, pX5_leftIf_12, pX5_leftIf_13, pX5_leftIf_16, pX5_leftIf_19, pX5_leftIf_20, pX5_leftIf_21, pX5_leftIf_22, pX5_leftIf_23, pX5_leftIf_25, pX5_leftIf_28, pX5_leftIf_31, pX5_leftIf_33, pX5_leftIf_34, pX5_leftIf_35, pX5_leftIf_38, pX5_leftIf_39, pX5_leftIf_40, pX5_leftIf_41, pX5_leftIf_42, pX5_leftIf_45, pX5_leftIf_46, pX5_leftIf_47, pX5_leftIf_48, nI_add, pk_mul, xn_sub, xn_and, xn_or, xn_xor, xn_shl, xn_shr, xn_lt, xn_le, xn_eq, xrf_some, xup_eq, xup_ne, xrow_eq, xrow_ne, Option.toList_some, Option.toList_none, List.singleton_append, List.nil_append, List.cons_append, xnl_n, xnl_i, xnl_r, Nat.zero_add, Nat.add_zero, ↓reduceIte, Nat.reduceEqDiff, Nat.reduceLeDiff, Nat.reduceAdd, Nat.reduceMul, Nat.reduceLT, Nat.one_ne_zero, eq_self, not_true_eq_false, not_false_eq_true, and_self, k0, r1, r2, r3, r5, r6, r7, r9, r10, r14, hpa, s_isContext, ctx_n (show c < 8 by omega), ctx_n (show d < 8 by omega), s_in, hcond, s_laym hS, Nat.one_mul]
        rw [pX5_leftIf_49 k0 (by decide)]
        refine s_until hS mset_V hgs hp2 (fun V' τ hτ hgt hf => ?_)
        have h2' : ∀ j, j < 502 → V' (t + 2) j = nI (gσ g j) := fun j hj => by rw [hf (t + 2) (by omega) (by omega) (by omega), mset_ne (by omega)]; exact h2 j hj
        simp (disch := (first | assumption | exact xnl_i _ | exact xnl_r _ | exact xnl_n | exact Bool.toNat_lt _ | exact hb _ | exact hb2 _ | omega | exact Nat.le_of_ble_eq_true rfl | rfl | decide)) only [pX5_leftIf_52, pX5_leftIf_54, pX5_leftIf_55, pX5_leftIf_58, pX5_leftIf_60, nI_add, pk_mul, xn_sub, xn_and, xn_or, xn_xor, xn_shl, xn_shr, xn_lt, xn_le, xn_eq, xrf_some, xup_eq, xup_ne, xrow_eq, xrow_ne, Option.toList_some, Option.toList_none, List.singleton_append, List.nil_append, List.cons_append, xnl_n, xnl_i, xnl_r, Nat.zero_add, Nat.add_zero, ↓reduceIte, Nat.reduceEqDiff, Nat.reduceLeDiff, Nat.reduceAdd, Nat.reduceMul, Nat.reduceLT, Nat.one_ne_zero, eq_self, not_true_eq_false, not_false_eq_true, and_self, k0, r1, r2, r3, r5, r6, r7, r9, r10, r14, s_takeBack hS hτ hgt.1.2.1 hG.1.1.2.1 h2']
        exact hQ _ (mRep_fr hRW (mFr_t (mFr_t mFr_set hf) mFr_set) mset_V) (mOut_t ho1 (mOut_t hoW (mOut_t mOut_set (mOut_t (mOut_fr hf) mOut_set))))
      · rw [if_neg hn] at hQ
        simp (disch := (first | assumption | exact xnl_i _ | exact xnl_r _ | exact xnl_n | exact Bool.toNat_lt _ | exact hb _ | exact hb2 _ | omega | exact Nat.le_of_ble_eq_true rfl | rfl | decide)) only [pX5_leftIf_0, pX5_leftIf_1, pX5_leftIf_2, pX5_leftIf_5, pX5_leftIf_6, pX5_leftIf_9, pX5_leftIf_12, pX5_leftIf_13, pX5_leftIf_16, pX5_leftIf_19, pX5_leftIf_20, pX5_leftIf_21, pX5_leftIf_22, pX5_leftIf_23, pX5_leftIf_25, pX5_leftIf_28, pX5_leftIf_31, pX5_leftIf_33, nI_add, pk_mul, xn_sub, xn_and, xn_or, xn_xor, xn_shl, xn_shr, xn_lt, xn_le, xn_eq, xrf_some, xup_eq, xup_ne, xrow_eq, xrow_ne, Option.toList_some, Option.toList_none, List.singleton_append, List.nil_append, List.cons_append, xnl_n, xnl_i, xnl_r, Nat.zero_add, Nat.add_zero, ↓reduceIte, Nat.reduceEqDiff, Nat.reduceLeDiff, Nat.reduceAdd, Nat.reduceMul, Nat.reduceLT, Nat.one_ne_zero, eq_self, not_true_eq_false, not_false_eq_true, and_self, k0, r1, r2, r3, r5, r6, r7, r9, r10, r14, s_isContext, ctx_n (show c < 8 by omega), ctx_n (show d < 8 by omega), s_in, hn]
        exact hQ _ hR1 ho1
    · rw [if_neg (fun z => hn z.2)] at hQ
      simp (disch := (first | assumption | exact xnl_i _ | exact xnl_r _ | exact xnl_n | exact Bool.toNat_lt _ | exact hb _ | exact hb2 _ | omega | exact Nat.le_of_ble_eq_true rfl | rfl | decide)) only [pX5_leftIf_0, pX5_leftIf_1, pX5_leftIf_2, pX5_leftIf_5, pX5_leftIf_6, pX5_leftIf_9, pX5_leftIf_12, pX5_leftIf_13, pX5_leftIf_16, pX5_leftIf_19, pX5_leftIf_20, nI_add, pk_mul, xn_sub, xn_and, xn_or, xn_xor, xn_shl, xn_shr, xn_lt, xn_le, xn_eq, xrf_some, xup_eq, xup_ne, xrow_eq, xrow_ne, Option.toList_some, Option.toList_none, List.singleton_append, List.nil_append, List.cons_append, xnl_n, xnl_i, xnl_r, Nat.zero_add, Nat.add_zero, ↓reduceIte, Nat.reduceEqDiff, Nat.reduceLeDiff, Nat.reduceAdd, Nat.reduceMul, Nat.reduceLT, Nat.one_ne_zero, eq_self, not_true_eq_false, not_false_eq_true, and_self, k0, r1, r2, r3, r5, r6, r7, r9, r10, r14, s_isContext, ctx_n (show c < 8 by omega), hn]
      exact hQ _ hR1 ho1
  · rw [if_neg (fun z => hn z.1)] at hQ
    simp (disch := (first | assumption | exact xnl_i _ | exact xnl_r _ | exact xnl_n | exact Bool.toNat_lt _ | exact hb _ | exact hb2 _ | omega | exact Nat.le_of_ble_eq_true rfl | rfl | decide)) only [pX5_leftIf_0, pX5_leftIf_1, pX5_leftIf_2, pX5_leftIf_5, pX5_leftIf_6, pX5_leftIf_9, pX5_leftIf_12, pX5_leftIf_13, pX5_leftIf_16, pX5_leftIf_19, pX5_leftIf_20, nI_add, pk_mul, xn_sub, xn_and, xn_or, xn_xor, xn_shl, xn_shr, xn_lt, xn_le, xn_eq, xrf_some, xup_eq, xup_ne, xrow_eq, xrow_ne, Option.toList_some, Option.toList_none, List.singleton_append, List.nil_append, List.cons_append, xnl_n, xnl_i, xnl_r, Nat.zero_add, Nat.add_zero, ↓reduceIte, Nat.reduceEqDiff, Nat.reduceLeDiff, Nat.reduceAdd, Nat.reduceMul, Nat.reduceLT, Nat.one_ne_zero, eq_self, not_true_eq_false, not_false_eq_true, and_self, k0, r1, r2, r3, r5, r6, r7, r9, r10, r14, s_isContext, hn]
    exact hQ _ hR1 ho1
theorem m_sumB {a v : Int32} (hR : mRep S V t g) (hG : gG g) (hQ : ∀ V', mRep S V' t (psumB g a v).2 → mOut V V' t → Q (some (.int (psumB g a v).1)) S V') : xC E mX5_sumBehind [.ref t, .int a, .int v] S V Q := by
  have hR1 : mRep S (xup V t 0 (nI 0)) t g := mRep_up hR (by decide) (by decide)
  have ho1 : mOut V (xup V t 0 (nI 0)) t := mOut_up (by omega)
  have hS := hR1.1
  have hS' := hS; obtain ⟨k0, r1, r2, r3, r5, r6, r7, r9, r10, r14, k1, n1, k2, n2, k3, n3, k4, n4, k5, n5, k6, n6, k7, n7, k8, n8, k9, n9⟩ := hS'
  have hs := hG.1
  show xX E mX5_sumBehind 0 [some (.ref t), some (.int a), some (.int v), none] [] S V Q
  unfold psumB at hQ
  rcases xrng a 0 7 (by decide) (by decide) with ⟨d, _, hd, rfl⟩ | ⟨hn, _⟩
  · have hcc := ctx_n (show d < 8 by omega)
    rw [if_pos hcc, ix_n (by omega)] at hQ
    rcases xrng v 1 200 (by decide) (by decide) with ⟨c, hc1, hc, rfl⟩ | ⟨hn, _⟩
    · have hcond := rng_n hc1 hc (by decide)
      rw [if_pos hcond, ix_n (by omega)] at hQ
      obtain ⟨W, hRW, hoW, h2, hpa⟩ := m_putAside (E := E) hR1
      have loop : ∀ k i W', i + k = c → mV W' t (pslots i (gσ g)) → mFr W W' t → xX E mX5_sumBehind 34 [some (.ref t), some (.int (nI d)), some (.int (nI c)), some (.int (nI i))] [] S W' Q := by
        intro k
        induction k with
        | zero =>
          intro i W' hn hW hf
          have hi : i = c := by omega
          subst hi
          have hgi := (pslots_gs hs i (by omega)).1
          have h2' : ∀ j, j < 502 → W' (t + 2) j = nI (gσ g j) := fun j hj => by rw [hf (t + 2) (by omega) (by omega) (by omega)]; exact h2 j hj
          simp (disch := (first | assumption | exact xnl_i _ | exact xnl_r _ | exact xnl_n | exact Bool.toNat_lt _ | exact hb _ | exact hb2 _ | omega | exact Nat.le_of_ble_eq_true rfl | rfl | decide)) only [pX5_sumBehind_34, pX5_sumBehind_35, pX5_sumBehind_36, pX5_sumBehind_50, pX5_sumBehind_51, pX5_sumBehind_52, pX5_sumBehind_53, pX5_sumBehind_56, pX5_sumBehind_57, pX5_sumBehind_58, pX5_sumBehind_61, pX5_sumBehind_62, nI_add, pk_mul, xn_sub, xn_and, xn_or, xn_xor, xn_shl, xn_shr, xn_lt, xn_le, xn_eq, xrf_some, xup_eq, xup_ne, xrow_eq, xrow_ne, Option.toList_some, Option.toList_none, List.singleton_append, List.nil_append, List.cons_append, xnl_n, xnl_i, xnl_r, Nat.zero_add, Nat.add_zero, ↓reduceIte, Nat.reduceEqDiff, Nat.reduceLeDiff, Nat.reduceAdd, Nat.reduceMul, Nat.reduceLT, Nat.one_ne_zero, eq_self, not_true_eq_false, not_false_eq_true, and_self, Nat.le_refl, k0, r1, r2, r3, r5, r6, r7, r9, r10, r14, s_get hS, hW (62 * d + 2), s_takeBack hS hW hgi.1.2.1 hs.1.2.1 h2']
          exact hQ _ (mRep_fr hRW (mFr_t hf mFr_set) mset_V) (mOut_t ho1 (mOut_t hoW (mOut_t (mOut_fr hf) mOut_set)))
        | succ k ih =>
          intro i W' hn hW hf
          have hgi := (pslots_gs hs i (by omega)).1
          obtain ⟨W2, h1, h2, h3⟩ := m_slot (E := E) hS hW hgi (by omega)
          have ih2 := ih (i + 1) W2 (by omega) h1 (mFr_t hf h2)
          have hi : ¬ c ≤ i := by omega
          rw [pX5_sumBehind_34]
          simp (disch := (first | assumption | exact xnl_i _ | exact xnl_r _ | exact xnl_n | exact Bool.toNat_lt _ | exact hb _ | exact hb2 _ | omega | exact Nat.le_of_ble_eq_true rfl | rfl | decide)) only [pX5_sumBehind_35, pX5_sumBehind_36, pX5_sumBehind_39, pX5_sumBehind_40, pX5_sumBehind_43, pX5_sumBehind_44, pX5_sumBehind_47, nI_add, pk_mul, xn_sub, xn_and, xn_or, xn_xor, xn_shl, xn_shr, xn_lt, xn_le, xn_eq, xrf_some, xup_eq, xup_ne, xrow_eq, xrow_ne, Option.toList_some, Option.toList_none, List.singleton_append, List.nil_append, List.cons_append, xnl_n, xnl_i, xnl_r, Nat.zero_add, Nat.add_zero, ↓reduceIte, Nat.reduceEqDiff, Nat.reduceLeDiff, Nat.reduceAdd, Nat.reduceMul, Nat.reduceLT, Nat.one_ne_zero, eq_self, not_true_eq_false, not_false_eq_true, and_self, k0, r1, r2, r3, r5, r6, r7, r9, r10, r14, hi, h3]
          exact ih2
      have hl := loop c 0 W (by omega) hRW.2.1 mFr_r
      simp (disch := (first | assumption | exact xnl_i _ | exact xnl_r _ | exact xnl_n | exact Bool.toNat_lt _ | exact hb _ | exact hb2 _ | omega | exact Nat.le_of_ble_eq_true rfl | rfl | decide)) only [pX5_sumBehind_0, pX5_sumBehind_1, pX5_sumBehind_2, pX5_sumBehind_5, pX5_sumBehind_6, pX5_sumBehind_9, pX5_sumBehind_12, pX5_sumBehind_13, pX5_sumBehind_14, pX5_sumBehind_15, pX5_sumBehind_16, pX5_sumBehind_19, pX5_sumBehind_22, pX5_sumBehind_25, pX5_sumBehind_27, pX5_sumBehind_28, pX5_sumBehind_29, pX5_sumBehind_32, pX5_sumBehind_33, nI_add, pk_mul, xn_sub, xn_and, xn_or, xn_xor, xn_shl, xn_shr, xn_lt, xn_le, xn_eq, xrf_some, xup_eq, xup_ne, xrow_eq, xrow_ne, Option.toList_some, Option.toList_none, List.singleton_append, List.nil_append, List.cons_append, xnl_n, xnl_i, xnl_r, Nat.zero_add, Nat.add_zero, ↓reduceIte, Nat.reduceEqDiff, Nat.reduceLeDiff, Nat.reduceAdd, Nat.reduceMul, Nat.reduceLT, Nat.one_ne_zero, eq_self, not_true_eq_false, not_false_eq_true, and_self, k0, r1, r2, r3, r5, r6, r7, r9, r10, r14, s_isContext, ctx_n (show d < 8 by omega), s_in, hcond, hpa]
      exact hl
    · rw [if_neg hn] at hQ
      simp (disch := (first | assumption | exact xnl_i _ | exact xnl_r _ | exact xnl_n | exact Bool.toNat_lt _ | exact hb _ | exact hb2 _ | omega | exact Nat.le_of_ble_eq_true rfl | rfl | decide)) only [pX5_sumBehind_0, pX5_sumBehind_1, pX5_sumBehind_2, pX5_sumBehind_5, pX5_sumBehind_6, pX5_sumBehind_9, pX5_sumBehind_12, pX5_sumBehind_13, pX5_sumBehind_14, pX5_sumBehind_15, pX5_sumBehind_16, pX5_sumBehind_19, pX5_sumBehind_22, pX5_sumBehind_25, pX5_sumBehind_27, nI_add, pk_mul, xn_sub, xn_and, xn_or, xn_xor, xn_shl, xn_shr, xn_lt, xn_le, xn_eq, xrf_some, xup_eq, xup_ne, xrow_eq, xrow_ne, Option.toList_some, Option.toList_none, List.singleton_append, List.nil_append, List.cons_append, xnl_n, xnl_i, xnl_r, Nat.zero_add, Nat.add_zero, ↓reduceIte, Nat.reduceEqDiff, Nat.reduceLeDiff, Nat.reduceAdd, Nat.reduceMul, Nat.reduceLT, Nat.one_ne_zero, eq_self, not_true_eq_false, not_false_eq_true, and_self, k0, r1, r2, r3, r5, r6, r7, r9, r10, r14, s_isContext, ctx_n (show d < 8 by omega), s_in, hn]
      exact hQ _ hR1 ho1
  · rw [if_neg hn] at hQ
    simp (disch := (first | assumption | exact xnl_i _ | exact xnl_r _ | exact xnl_n | exact Bool.toNat_lt _ | exact hb _ | exact hb2 _ | omega | exact Nat.le_of_ble_eq_true rfl | rfl | decide)) only [pX5_sumBehind_0, pX5_sumBehind_1, pX5_sumBehind_2, pX5_sumBehind_5, pX5_sumBehind_6, pX5_sumBehind_9, pX5_sumBehind_12, pX5_sumBehind_13, nI_add, pk_mul, xn_sub, xn_and, xn_or, xn_xor, xn_shl, xn_shr, xn_lt, xn_le, xn_eq, xrf_some, xup_eq, xup_ne, xrow_eq, xrow_ne, Option.toList_some, Option.toList_none, List.singleton_append, List.nil_append, List.cons_append, xnl_n, xnl_i, xnl_r, Nat.zero_add, Nat.add_zero, ↓reduceIte, Nat.reduceEqDiff, Nat.reduceLeDiff, Nat.reduceAdd, Nat.reduceMul, Nat.reduceLT, Nat.one_ne_zero, eq_self, not_true_eq_false, not_false_eq_true, and_self, k0, r1, r2, r3, r5, r6, r7, r9, r10, r14, s_isContext, hn]
    exact hQ _ hR1 ho1
end MST2
