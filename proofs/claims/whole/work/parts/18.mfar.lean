/-! ===== the reference: who waits for whom by way of others ===== -/
def mlay (V : xV) (t k : Nat) (w f : Nat → Nat) : xV := fun a i => if a = t + 7 ∧ i < k then nI (w i) else if a = t + 8 ∧ i < k then nI (f i) else V a i
section MFR
variable {E : Nat × Nat × Nat} {S : xSh} {V : xV} {Q : Option Value → xSh → xV → Prop} {t : Nat} {σ : Nat → Nat}
theorem mlay_ne {V : xV} {t k : Nat} {w f : Nat → Nat} {a i : Nat} (h1 : ¬ a = t + 7) (h2 : ¬ a = t + 8) : mlay V t k w f a i = V a i := by unfold mlay; rw [if_neg (fun h => h1 h.1), if_neg (fun h => h2 h.1)]
theorem mlay_7 {V : xV} {t k : Nat} {w f : Nat → Nat} {i : Nat} (h : i < k) : mlay V t k w f (t + 7) i = nI (w i) := by unfold mlay; rw [if_pos ⟨rfl, h⟩]
theorem mlay_8 {V : xV} {t k : Nat} {w f : Nat → Nat} {i : Nat} (h : i < k) : mlay V t k w f (t + 8) i = nI (f i) := by unfold mlay; rw [if_neg (fun z => by omega), if_pos ⟨rfl, h⟩]
theorem mlay_0 {V : xV} {t : Nat} {w f : Nat → Nat} : mlay V t 0 w f = V := by
  funext a i; unfold mlay; rw [if_neg (fun z => by omega), if_neg (fun z => by omega)]
theorem mlay_up {V : xV} {t : Nat} {w f : Nat → Nat} {c v : Nat} (hc : c < 8) : xup (mlay V t 8 w f) (t + 8) c (nI v) = mlay V t 8 w (su f c v) := by
  funext a i
  unfold xup mlay su
  by_cases h : a = t + 8 ∧ i = c
  · obtain ⟨rfl, rfl⟩ := h
    simp [hc]
  · rw [if_neg h]
    by_cases h7 : a = t + 7 ∧ i < 8
    · rw [if_pos h7, if_pos h7]
    · rw [if_neg h7, if_neg h7]
      by_cases h8 : a = t + 8 ∧ i < 8
      · rw [if_pos h8, if_pos h8, if_neg (fun z => h ⟨h8.1, z⟩)]
      · rw [if_neg h8, if_neg h8]
theorem mlay_s {V : xV} {t k : Nat} {w : Nat → Nat} : xup (xup (mlay V t k w w) (t + 7) k (nI (w k))) (t + 8) k (nI (w k)) = mlay V t (k + 1) w w := by
  funext a i
  unfold xup mlay
  by_cases h : i = k
  · subst h
    by_cases h8 : a = t + 8
    · subst h8; simp
    · by_cases h7 : a = t + 7
      · subst h7; simp
      · simp [h7, h8]
  · by_cases h2 : i < k
    · have h3 : i < k + 1 := by omega
      simp [h, h2, h3]
    · have h3 : ¬ i < k + 1 := by omega
      simp [h, h2, h3]
theorem mlay_V {V : xV} {t k : Nat} {w f : Nat → Nat} (h : mV V t σ) : mV (mlay V t k w f) t σ := fun i => by rw [mlay_ne (by omega) (by omega)]; exact h i
theorem pst_arg (hw : wf σ) {c : Nat} (hc : c < 8) : (pst σ c = 5 → parg σ c (σ (62 * c + 1)) ≤ 7) ∧ (pst σ c = 3 → parg σ c (σ (62 * c + 1)) ≤ 3 ∧ 0 < σ (497 + parg σ c (σ (62 * c + 1)))) := by
  obtain ⟨w1, w2, w3, w4, w5, w6, w7, w8, w9⟩ := hw.2.1 c hc
  have hok := fun h => (w9 (σ (62 * c + 1)) h).1
  unfold pst
  by_cases h0 : σ (62 * c) ≤ σ (62 * c + 1)
  · simp [h0]
  · have hok := hok (by omega)
    by_cases h1 : 0 < σ (62 * c + 9)
    · simp [h0, h1]
    · rw [if_neg h0, if_neg h1]
      unfold pok at hok
      by_cases h2 : pcmd σ c (σ (62 * c + 1)) = 1
      · rw [if_pos h2]
        refine ⟨fun _ => by omega, fun h => ?_⟩
        split at h <;> omega
      · rw [if_neg h2]
        by_cases h3 : pcmd σ c (σ (62 * c + 1)) = 2
        · rw [if_pos h3]
          refine ⟨fun h => ?_, fun h => ?_⟩ <;> split at h <;> omega
        · rw [if_neg h3]
          by_cases h4 : pcmd σ c (σ (62 * c + 1)) = 3
          · rw [if_pos h4]
            refine ⟨fun h => ?_, fun h => ?_⟩
            · split at h <;> omega
            · split at h
              · rename_i h5; exact ⟨by omega, h5⟩
              · omega
          · rw [if_neg h4]
            exact ⟨fun h => by omega, fun h => by omega⟩
theorem pow_lt256 {k : Nat} (h : k ≤ 7) : 2 ^ k < 256 := Nat.lt_of_le_of_lt (Nat.pow_le_pow_right (by decide) h) (by decide)
theorem pwait_lt (hw : wf σ) {c : Nat} (hc : c < 8) : pwait σ c < 256 := by
  obtain ⟨h5, h3⟩ := pst_arg hw hc
  unfold pwait
  by_cases e5 : pst σ c = 5
  · rw [if_pos e5]; exact pow_lt256 (h5 e5)
  · rw [if_neg e5]
    by_cases e3 : pst σ c = 3
    · rw [if_pos e3]
      have := h3 e3
      have := hw.2.2 _ (show parg σ c (σ (62 * c + 1)) < 4 by omega)
      exact pow_lt256 (by omega)
    · rw [if_neg e3]
      split
      · exact bm_lt _ 8
      · decide
theorem fto_lt {w : Nat → Nat} (h : ∀ i, i < 8 → w i < 256) (i : Nat) : fto w (fun _ => 0) 8 i < 256 := by
  unfold fto; split
  · exact h i (by assumption)
  · exact Nat.zero_lt_succ _
theorem fstep_lt {c o : Nat} {f : Nat → Nat} (h : ∀ i, f i < 256) : ∀ i, fstep c o f i < 256 := by
  intro i
  unfold fstep su
  split
  · refine Nat.or_lt_two_pow (n := 8) (h c) ?_
    split
    · exact h o
    · decide
  · exact h i
theorem itN_in {α : Type} {P : α → Prop} {g : Nat → α → α} (hg : ∀ n x, P x → P (g n x)) : ∀ n x, P x → P (itN g n x) := by
  intro n
  induction n with
  | zero => intro x h; exact h
  | succ n ih => intro x h; exact hg n _ (ih x h)
theorem fctx_lt {c : Nat} {f : Nat → Nat} (h : ∀ i, f i < 256) : ∀ i, fctx c f i < 256 := itN_in (P := fun f : Nat → Nat => ∀ i, f i < 256) (g := fun o f => fstep c o f) (fun _ _ hf => fstep_lt hf) 8 f h
theorem frnd_lt {f : Nat → Nat} (h : ∀ i, f i < 256) : ∀ i, frnd f i < 256 := itN_in (P := fun f : Nat → Nat => ∀ i, f i < 256) (g := fctx) (fun _ _ hf => fctx_lt hf) 8 f h
theorem ffar_lt {w : Nat → Nat} (h : ∀ i, w i < 256) : ∀ i, ffar w i < 256 := itN_in (P := fun f : Nat → Nat => ∀ i, f i < 256) (g := fun _ f => frnd f) (fun _ _ hf => frnd_lt hf) 8 w h
theorem pfar_lt (hw : wf σ) (c : Nat) : pfar σ c < 256 := ffar_lt (fto_lt (fun i hi => pwait_lt hw hi)) c
def mW (V : xV) (t : Nat) (σ : Nat → Nat) : xV := mlay V t 8 (pwait σ) (pfar σ)
theorem mlay_c {V : xV} {t k : Nat} {w w' f f' : Nat → Nat} (h : ∀ i, i < k → w i = w' i) (h2 : ∀ i, i < k → f i = f' i) : mlay V t k w f = mlay V t k w' f' := by
  funext a i
  unfold mlay
  by_cases h7 : a = t + 7 ∧ i < k
  · rw [if_pos h7, if_pos h7, h i h7.2]
  · rw [if_neg h7, if_neg h7]
    by_cases h8 : a = t + 8 ∧ i < k
    · rw [if_pos h8, if_pos h8, h2 i h8.2]
    · rw [if_neg h8, if_neg h8]
theorem s_laysWaits (hS : mShape S t) (hσ : mV V t σ) (hw : wf σ) : xC E mX5_laysWaits [.ref t] S V Q ↔ Q none S (mW V t σ) := by
  have hS' := hS; obtain ⟨k0, r1, r2, r3, r5, r6, r7, r9, r10, r14, k1, n1, k2, n2, k3, n3, k4, n4, k5, n5, k6, n6, k7, n7, k8, n8, k9, n9⟩ := hS'; have hb := wf_b hw; have hv : ∀ i, V (t + 1) i = nI (σ i) := hσ
  have loop3 : ∀ k i a b f, i + k = 8 → a < 8 → b < 8 → (∀ i, f i < 256) → (xX E mX5_laysWaits 55 [some (.ref t), some (.int (nI a)), some (.int (nI b)), some (.int (nI i))] [] S (mlay V t 8 (pwait σ) (itN (fun o f => fstep b o f) i f)) Q ↔ xX E mX5_laysWaits 47 [some (.ref t), some (.int (nI a)), some (.int (nI (b + 1))), some (.int (nI 8))] [] S (mlay V t 8 (pwait σ) (itN (fun o f => fstep b o f) 8 f)) Q) := by
    intro k
    induction k with
    | zero =>
      intro i a b f hn ha hb8 hf
      have hi : i = 8 := by omega
      subst hi
      simp (disch := (first | assumption | exact xnl_i _ | exact xnl_r _ | exact xnl_n | exact Bool.toNat_lt _ | exact hb _ | exact hb2 _ | omega | exact Nat.le_of_ble_eq_true rfl | rfl | decide)) only [pX5_laysWaits_0, pX5_laysWaits_1, pX5_laysWaits_2, pX5_laysWaits_3, pX5_laysWaits_5, pX5_laysWaits_8, pX5_laysWaits_9, pX5_laysWaits_12, pX5_laysWaits_13, pX5_laysWaits_14, pX5_laysWaits_15, pX5_laysWaits_18, pX5_laysWaits_19, pX5_laysWaits_20, pX5_laysWaits_23, pX5_laysWaits_24, pX5_laysWaits_25, pX5_laysWaits_28, pX5_laysWaits_29, pX5_laysWaits_30, pX5_laysWaits_31, pX5_laysWaits_34, pX5_laysWaits_37, pX5_laysWaits_38, pX5_laysWaits_39, pX5_laysWaits_40, pX5_laysWaits_42, pX5_laysWaits_45, pX5_laysWaits_46, pX5_laysWaits_48, pX5_laysWaits_50, pX5_laysWaits_53, pX5_laysWaits_54, pX5_laysWaits_55, pX5_laysWaits_56, pX5_laysWaits_58, pX5_laysWaits_61, pX5_laysWaits_62, pX5_laysWaits_65, pX5_laysWaits_66, pX5_laysWaits_67, pX5_laysWaits_68, pX5_laysWaits_69, pX5_laysWaits_72, pX5_laysWaits_73, pX5_laysWaits_74, pX5_laysWaits_75, pX5_laysWaits_76, pX5_laysWaits_77, pX5_laysWaits_78, pX5_laysWaits_79, pX5_laysWaits_82, pX5_laysWaits_83, pX5_laysWaits_86, pX5_laysWaits_87, pX5_laysWaits_88, pX5_laysWaits_91, pX5_laysWaits_92, pX5_laysWaits_93, pX5_laysWaits_94, pX5_laysWaits_97, pX5_laysWaits_100, pX5_laysWaits_103, pX5_laysWaits_106, pX5_laysWaits_109, pX5_laysWaits_112, nI_add, pk_mul, xn_sub, xn_and, xn_or, xn_xor, xn_shl, xn_shr, xn_lt, xn_le, xn_eq, xrf_some, xup_eq, xup_ne, xrow_eq, xrow_ne, Option.toList_some, Option.toList_none, List.singleton_append, List.nil_append, List.cons_append, xnl_n, xnl_i, xnl_r, Nat.zero_add, Nat.add_zero, ↓reduceIte, Nat.reduceEqDiff, Nat.reduceLeDiff, Nat.reduceAdd, Nat.reduceMul, Nat.reduceLT, Nat.one_ne_zero, eq_self, not_true_eq_false, not_false_eq_true, and_self]
    | succ k ih =>
      intro i a b f hn ha hb8 hf
      have h : ¬ 8 ≤ i := by omega
      have hi8 : i < 8 := by omega
      have ih2 := ih (i + 1) a b f (by omega) ha hb8 hf
      rw [itN_s] at ih2
      have hf' : ∀ j, itN (fun o f => fstep b o f) i f j < 256 := itN_in (P := fun f : Nat → Nat => ∀ i, f i < 256) (g := fun o f => fstep b o f) (fun _ _ hf => fstep_lt hf) i f hf
      generalize itN (fun o f => fstep b o f) i f = g at ih2 hf' ⊢
      have hb2 : ∀ j, g j < 2147483648 := fun j => Nat.lt_trans (hf' j) (by decide)
      have hb3 : g b / 2 ^ i < 2147483648 := div_lt i (hb2 b)
      have hb4 : g b / 2 ^ i &&& 1 < 2147483648 := and1_lt _
      rw [pX5_laysWaits_55]
      unfold fstep at ih2
      by_cases hq : (g b).testBit i = true
      · have hq' : g b / 2 ^ i &&& 1 = 1 := (tb_and _ _).mpr hq
        rw [if_pos hq] at ih2
        simp (disch := (first | assumption | exact xnl_i _ | exact xnl_r _ | exact xnl_n | exact Bool.toNat_lt _ | exact hb _ | exact hb2 _ | omega | exact Nat.le_of_ble_eq_true rfl | rfl | decide)) only [pX5_laysWaits_0, pX5_laysWaits_1, pX5_laysWaits_2, pX5_laysWaits_3, pX5_laysWaits_5, pX5_laysWaits_8, pX5_laysWaits_9, pX5_laysWaits_12, pX5_laysWaits_13, pX5_laysWaits_14, pX5_laysWaits_15, pX5_laysWaits_18, pX5_laysWaits_19, pX5_laysWaits_20, pX5_laysWaits_23, pX5_laysWaits_24, pX5_laysWaits_25, pX5_laysWaits_28, pX5_laysWaits_29, pX5_laysWaits_30, pX5_laysWaits_31, pX5_laysWaits_34, pX5_laysWaits_37, pX5_laysWaits_38, pX5_laysWaits_39, pX5_laysWaits_40, pX5_laysWaits_42, pX5_laysWaits_45, pX5_laysWaits_46, pX5_laysWaits_48, pX5_laysWaits_50, pX5_laysWaits_53, pX5_laysWaits_54, pX5_laysWaits_56, pX5_laysWaits_58, pX5_laysWaits_61, pX5_laysWaits_62, pX5_laysWaits_65, pX5_laysWaits_66, pX5_laysWaits_67, pX5_laysWaits_68, pX5_laysWaits_69, pX5_laysWaits_72, pX5_laysWaits_73, pX5_laysWaits_74, pX5_laysWaits_75, pX5_laysWaits_76, pX5_laysWaits_77, pX5_laysWaits_78, pX5_laysWaits_79, pX5_laysWaits_82, pX5_laysWaits_83, pX5_laysWaits_86, pX5_laysWaits_87, pX5_laysWaits_88, pX5_laysWaits_91, pX5_laysWaits_92, pX5_laysWaits_93, pX5_laysWaits_94, pX5_laysWaits_97, pX5_laysWaits_100, pX5_laysWaits_103, pX5_laysWaits_106, pX5_laysWaits_109, pX5_laysWaits_112, nI_add, pk_mul, xn_sub, xn_and, xn_or, xn_xor, xn_shl, xn_shr, xn_lt, xn_le, xn_eq, xrf_some, xup_eq, xup_ne, xrow_eq, xrow_ne, Option.toList_some, Option.toList_none, List.singleton_append, List.nil_append, List.cons_append, xnl_n, xnl_i, xnl_r, Nat.zero_add, Nat.add_zero, ↓reduceIte, Nat.reduceEqDiff, Nat.reduceLeDiff, Nat.reduceAdd, Nat.reduceMul, Nat.reduceLT, Nat.one_ne_zero, eq_self, not_true_eq_false, not_false_eq_true, and_self, k0, r1, r2, r3, r5, r6, r7, r9, r10, r14, h, mlay_8, hq', mlay_up]
        exact ih2
      · have hq' : ¬ g b / 2 ^ i &&& 1 = 1 := fun z => hq ((tb_and _ _).mp z)
        rw [if_neg hq] at ih2
        simp (disch := (first | assumption | exact xnl_i _ | exact xnl_r _ | exact xnl_n | exact Bool.toNat_lt _ | exact hb _ | exact hb2 _ | omega | exact Nat.le_of_ble_eq_true rfl | rfl | decide)) only [pX5_laysWaits_0, pX5_laysWaits_1, pX5_laysWaits_2, pX5_laysWaits_3, pX5_laysWaits_5, pX5_laysWaits_8, pX5_laysWaits_9, pX5_laysWaits_12, pX5_laysWaits_13, pX5_laysWaits_14, pX5_laysWaits_15, pX5_laysWaits_18, pX5_laysWaits_19, pX5_laysWaits_20, pX5_laysWaits_23, pX5_laysWaits_24, pX5_laysWaits_25, pX5_laysWaits_28, pX5_laysWaits_29, pX5_laysWaits_30, pX5_laysWaits_31, pX5_laysWaits_34, pX5_laysWaits_37, pX5_laysWaits_38, pX5_laysWaits_39, pX5_laysWaits_40, pX5_laysWaits_42, pX5_laysWaits_45, pX5_laysWaits_46, pX5_laysWaits_48, pX5_laysWaits_50, pX5_laysWaits_53, pX5_laysWaits_54, pX5_laysWaits_56, pX5_laysWaits_58, pX5_laysWaits_61, pX5_laysWaits_62, pX5_laysWaits_65, pX5_laysWaits_66, pX5_laysWaits_67, pX5_laysWaits_68, pX5_laysWaits_69, pX5_laysWaits_72, pX5_laysWaits_73, pX5_laysWaits_74, pX5_laysWaits_75, pX5_laysWaits_76, pX5_laysWaits_77, pX5_laysWaits_78, pX5_laysWaits_79, pX5_laysWaits_82, pX5_laysWaits_83, pX5_laysWaits_86, pX5_laysWaits_87, pX5_laysWaits_88, pX5_laysWaits_91, pX5_laysWaits_92, pX5_laysWaits_93, pX5_laysWaits_94, pX5_laysWaits_97, pX5_laysWaits_100, pX5_laysWaits_103, pX5_laysWaits_106, pX5_laysWaits_109, pX5_laysWaits_112, nI_add, pk_mul, xn_sub, xn_and, xn_or, xn_xor, xn_shl, xn_shr, xn_lt, xn_le, xn_eq, xrf_some, xup_eq, xup_ne, xrow_eq, xrow_ne, Option.toList_some, Option.toList_none, List.singleton_append, List.nil_append, List.cons_append, xnl_n, xnl_i, xnl_r, Nat.zero_add, Nat.add_zero, ↓reduceIte, Nat.reduceEqDiff, Nat.reduceLeDiff, Nat.reduceAdd, Nat.reduceMul, Nat.reduceLT, Nat.one_ne_zero, eq_self, not_true_eq_false, not_false_eq_true, and_self, k0, r1, r2, r3, r5, r6, r7, r9, r10, r14, h, mlay_8, hq', mlay_up]
        exact ih2
  have loop2 : ∀ k i a f l3, i + k = 8 → a < 8 → (∀ i, f i < 256) → ∃ l4, (xX E mX5_laysWaits 47 [some (.ref t), some (.int (nI a)), some (.int (nI i)), l3] [] S (mlay V t 8 (pwait σ) (itN fctx i f)) Q ↔ xX E mX5_laysWaits 39 [some (.ref t), some (.int (nI (a + 1))), some (.int (nI 8)), l4] [] S (mlay V t 8 (pwait σ) (itN fctx 8 f)) Q) := by
    intro k
    induction k with
    | zero =>
      intro i a f l3 hn ha hf
      have hi : i = 8 := by omega
      subst hi
      refine ⟨l3, ?_⟩
      simp (disch := (first | assumption | exact xnl_i _ | exact xnl_r _ | exact xnl_n | exact Bool.toNat_lt _ | exact hb _ | exact hb2 _ | omega | exact Nat.le_of_ble_eq_true rfl | rfl | decide)) only [pX5_laysWaits_0, pX5_laysWaits_1, pX5_laysWaits_2, pX5_laysWaits_3, pX5_laysWaits_5, pX5_laysWaits_8, pX5_laysWaits_9, pX5_laysWaits_12, pX5_laysWaits_13, pX5_laysWaits_14, pX5_laysWaits_15, pX5_laysWaits_18, pX5_laysWaits_19, pX5_laysWaits_20, pX5_laysWaits_23, pX5_laysWaits_24, pX5_laysWaits_25, pX5_laysWaits_28, pX5_laysWaits_29, pX5_laysWaits_30, pX5_laysWaits_31, pX5_laysWaits_34, pX5_laysWaits_37, pX5_laysWaits_38, pX5_laysWaits_40, pX5_laysWaits_42, pX5_laysWaits_45, pX5_laysWaits_46, pX5_laysWaits_47, pX5_laysWaits_48, pX5_laysWaits_50, pX5_laysWaits_53, pX5_laysWaits_54, pX5_laysWaits_55, pX5_laysWaits_56, pX5_laysWaits_58, pX5_laysWaits_61, pX5_laysWaits_62, pX5_laysWaits_65, pX5_laysWaits_66, pX5_laysWaits_67, pX5_laysWaits_68, pX5_laysWaits_69, pX5_laysWaits_72, pX5_laysWaits_73, pX5_laysWaits_74, pX5_laysWaits_75, pX5_laysWaits_76, pX5_laysWaits_77, pX5_laysWaits_78, pX5_laysWaits_79, pX5_laysWaits_82, pX5_laysWaits_83, pX5_laysWaits_86, pX5_laysWaits_87, pX5_laysWaits_88, pX5_laysWaits_91, pX5_laysWaits_92, pX5_laysWaits_93, pX5_laysWaits_94, pX5_laysWaits_97, pX5_laysWaits_100, pX5_laysWaits_103, pX5_laysWaits_106, pX5_laysWaits_109, pX5_laysWaits_112, nI_add, pk_mul, xn_sub, xn_and, xn_or, xn_xor, xn_shl, xn_shr, xn_lt, xn_le, xn_eq, xrf_some, xup_eq, xup_ne, xrow_eq, xrow_ne, Option.toList_some, Option.toList_none, List.singleton_append, List.nil_append, List.cons_append, xnl_n, xnl_i, xnl_r, Nat.zero_add, Nat.add_zero, ↓reduceIte, Nat.reduceEqDiff, Nat.reduceLeDiff, Nat.reduceAdd, Nat.reduceMul, Nat.reduceLT, Nat.one_ne_zero, eq_self, not_true_eq_false, not_false_eq_true, and_self]
    | succ k ih =>
      intro i a f l3 hn ha hf
      have h : ¬ 8 ≤ i := by omega
      have hi8 : i < 8 := by omega
      obtain ⟨l4, ih2⟩ := ih (i + 1) a f (some (.int (nI 8))) (by omega) ha hf
      refine ⟨l4, ?_⟩
      rw [itN_s] at ih2
      rw [pX5_laysWaits_47]
      simp (disch := (first | assumption | exact xnl_i _ | exact xnl_r _ | exact xnl_n | exact Bool.toNat_lt _ | exact hb _ | exact hb2 _ | omega | exact Nat.le_of_ble_eq_true rfl | rfl | decide)) only [pX5_laysWaits_0, pX5_laysWaits_1, pX5_laysWaits_2, pX5_laysWaits_3, pX5_laysWaits_5, pX5_laysWaits_8, pX5_laysWaits_9, pX5_laysWaits_12, pX5_laysWaits_13, pX5_laysWaits_14, pX5_laysWaits_15, pX5_laysWaits_18, pX5_laysWaits_19, pX5_laysWaits_20, pX5_laysWaits_23, pX5_laysWaits_24, pX5_laysWaits_25, pX5_laysWaits_28, pX5_laysWaits_29, pX5_laysWaits_30, pX5_laysWaits_31, pX5_laysWaits_34, pX5_laysWaits_37, pX5_laysWaits_38, pX5_laysWaits_40, pX5_laysWaits_42, pX5_laysWaits_45, pX5_laysWaits_46, pX5_laysWaits_48, pX5_laysWaits_50, pX5_laysWaits_53, pX5_laysWaits_54, pX5_laysWaits_56, pX5_laysWaits_58, pX5_laysWaits_61, pX5_laysWaits_62, pX5_laysWaits_65, pX5_laysWaits_66, pX5_laysWaits_67, pX5_laysWaits_68, pX5_laysWaits_69, pX5_laysWaits_72, pX5_laysWaits_73, pX5_laysWaits_74, pX5_laysWaits_75, pX5_laysWaits_76, pX5_laysWaits_77, pX5_laysWaits_78, pX5_laysWaits_79, pX5_laysWaits_82, pX5_laysWaits_83, pX5_laysWaits_86, pX5_laysWaits_87, pX5_laysWaits_88, pX5_laysWaits_91, pX5_laysWaits_92, pX5_laysWaits_93, pX5_laysWaits_94, pX5_laysWaits_97, pX5_laysWaits_100, pX5_laysWaits_103, pX5_laysWaits_106, pX5_laysWaits_109, pX5_laysWaits_112, nI_add, pk_mul, xn_sub, xn_and, xn_or, xn_xor, xn_shl, xn_shr, xn_lt, xn_le, xn_eq, xrf_some, xup_eq, xup_ne, xrow_eq, xrow_ne, Option.toList_some, Option.toList_none, List.singleton_append, List.nil_append, List.cons_append, xnl_n, xnl_i, xnl_r, Nat.zero_add, Nat.add_zero, ↓reduceIte, Nat.reduceEqDiff, Nat.reduceLeDiff, Nat.reduceAdd, Nat.reduceMul, Nat.reduceLT, Nat.one_ne_zero, eq_self, not_true_eq_false, not_false_eq_true, and_self, h]
      rw [← ih2]
      exact loop3 8 0 a i _ rfl ha hi8 (itN_in (P := fun f : Nat → Nat => ∀ i, f i < 256) (g := fctx) (fun _ _ hf => fctx_lt hf) i f hf)
  have loop1 : ∀ k i f l2 l3, i + k = 8 → (∀ i, f i < 256) → (xX E mX5_laysWaits 39 [some (.ref t), some (.int (nI i)), l2, l3] [] S (mlay V t 8 (pwait σ) (itN (fun _ f => frnd f) i f)) Q ↔ Q none S (mlay V t 8 (pwait σ) (ffar f))) := by
    intro k
    induction k with
    | zero =>
      intro i f l2 l3 hn hf
      have hi : i = 8 := by omega
      subst hi
      simp (disch := (first | assumption | exact xnl_i _ | exact xnl_r _ | exact xnl_n | exact Bool.toNat_lt _ | exact hb _ | exact hb2 _ | omega | exact Nat.le_of_ble_eq_true rfl | rfl | decide)) only [pX5_laysWaits_0, pX5_laysWaits_1, pX5_laysWaits_2, pX5_laysWaits_3, pX5_laysWaits_5, pX5_laysWaits_8, pX5_laysWaits_9, pX5_laysWaits_12, pX5_laysWaits_13, pX5_laysWaits_14, pX5_laysWaits_15, pX5_laysWaits_18, pX5_laysWaits_19, pX5_laysWaits_20, pX5_laysWaits_23, pX5_laysWaits_24, pX5_laysWaits_25, pX5_laysWaits_28, pX5_laysWaits_29, pX5_laysWaits_30, pX5_laysWaits_31, pX5_laysWaits_34, pX5_laysWaits_37, pX5_laysWaits_38, pX5_laysWaits_39, pX5_laysWaits_40, pX5_laysWaits_42, pX5_laysWaits_45, pX5_laysWaits_46, pX5_laysWaits_47, pX5_laysWaits_48, pX5_laysWaits_50, pX5_laysWaits_53, pX5_laysWaits_54, pX5_laysWaits_55, pX5_laysWaits_56, pX5_laysWaits_58, pX5_laysWaits_61, pX5_laysWaits_62, pX5_laysWaits_65, pX5_laysWaits_66, pX5_laysWaits_67, pX5_laysWaits_68, pX5_laysWaits_69, pX5_laysWaits_72, pX5_laysWaits_73, pX5_laysWaits_74, pX5_laysWaits_75, pX5_laysWaits_76, pX5_laysWaits_77, pX5_laysWaits_78, pX5_laysWaits_79, pX5_laysWaits_82, pX5_laysWaits_83, pX5_laysWaits_86, pX5_laysWaits_87, pX5_laysWaits_88, pX5_laysWaits_91, pX5_laysWaits_92, pX5_laysWaits_93, pX5_laysWaits_94, pX5_laysWaits_97, pX5_laysWaits_100, pX5_laysWaits_103, pX5_laysWaits_106, pX5_laysWaits_109, pX5_laysWaits_112, nI_add, pk_mul, xn_sub, xn_and, xn_or, xn_xor, xn_shl, xn_shr, xn_lt, xn_le, xn_eq, xrf_some, xup_eq, xup_ne, xrow_eq, xrow_ne, Option.toList_some, Option.toList_none, List.singleton_append, List.nil_append, List.cons_append, xnl_n, xnl_i, xnl_r, Nat.zero_add, Nat.add_zero, ↓reduceIte, Nat.reduceEqDiff, Nat.reduceLeDiff, Nat.reduceAdd, Nat.reduceMul, Nat.reduceLT, Nat.one_ne_zero, eq_self, not_true_eq_false, not_false_eq_true, and_self]
      rfl
    | succ k ih =>
      intro i f l2 l3 hn hf
      have h : ¬ 8 ≤ i := by omega
      have hi8 : i < 8 := by omega
      obtain ⟨l4, h2⟩ := loop2 8 0 i (itN (fun _ f => frnd f) i f) l3 rfl hi8 (itN_in (P := fun f : Nat → Nat => ∀ i, f i < 256) (g := fun _ f => frnd f) (fun _ _ hf => frnd_lt hf) i f hf)
      have ih2 := ih (i + 1) f (some (.int (nI 8))) l4 (by omega) hf
      rw [itN_s] at ih2
      rw [pX5_laysWaits_39]
      simp (disch := (first | assumption | exact xnl_i _ | exact xnl_r _ | exact xnl_n | exact Bool.toNat_lt _ | exact hb _ | exact hb2 _ | omega | exact Nat.le_of_ble_eq_true rfl | rfl | decide)) only [pX5_laysWaits_0, pX5_laysWaits_1, pX5_laysWaits_2, pX5_laysWaits_3, pX5_laysWaits_5, pX5_laysWaits_8, pX5_laysWaits_9, pX5_laysWaits_12, pX5_laysWaits_13, pX5_laysWaits_14, pX5_laysWaits_15, pX5_laysWaits_18, pX5_laysWaits_19, pX5_laysWaits_20, pX5_laysWaits_23, pX5_laysWaits_24, pX5_laysWaits_25, pX5_laysWaits_28, pX5_laysWaits_29, pX5_laysWaits_30, pX5_laysWaits_31, pX5_laysWaits_34, pX5_laysWaits_37, pX5_laysWaits_38, pX5_laysWaits_40, pX5_laysWaits_42, pX5_laysWaits_45, pX5_laysWaits_46, pX5_laysWaits_48, pX5_laysWaits_50, pX5_laysWaits_53, pX5_laysWaits_54, pX5_laysWaits_55, pX5_laysWaits_56, pX5_laysWaits_58, pX5_laysWaits_61, pX5_laysWaits_62, pX5_laysWaits_65, pX5_laysWaits_66, pX5_laysWaits_67, pX5_laysWaits_68, pX5_laysWaits_69, pX5_laysWaits_72, pX5_laysWaits_73, pX5_laysWaits_74, pX5_laysWaits_75, pX5_laysWaits_76, pX5_laysWaits_77, pX5_laysWaits_78, pX5_laysWaits_79, pX5_laysWaits_82, pX5_laysWaits_83, pX5_laysWaits_86, pX5_laysWaits_87, pX5_laysWaits_88, pX5_laysWaits_91, pX5_laysWaits_92, pX5_laysWaits_93, pX5_laysWaits_94, pX5_laysWaits_97, pX5_laysWaits_100, pX5_laysWaits_103, pX5_laysWaits_106, pX5_laysWaits_109, pX5_laysWaits_112, nI_add, pk_mul, xn_sub, xn_and, xn_or, xn_xor, xn_shl, xn_shr, xn_lt, xn_le, xn_eq, xrf_some, xup_eq, xup_ne, xrow_eq, xrow_ne, Option.toList_some, Option.toList_none, List.singleton_append, List.nil_append, List.cons_append, xnl_n, xnl_i, xnl_r, Nat.zero_add, Nat.add_zero, ↓reduceIte, Nat.reduceEqDiff, Nat.reduceLeDiff, Nat.reduceAdd, Nat.reduceMul, Nat.reduceLT, Nat.one_ne_zero, eq_self, not_true_eq_false, not_false_eq_true, and_self, h]
      rw [← ih2]
      exact h2
  have loop0 : ∀ k i, i + k = 8 → (xX E mX5_laysWaits 2 [some (.ref t), some (.int (nI i)), none, none] [] S (mlay V t i (pwait σ) (pwait σ)) Q ↔ Q none S (mW V t σ)) := by
    intro k
    induction k with
    | zero =>
      intro i hn
      have hi : i = 8 := by omega
      subst hi
      have e : mlay V t 8 (pwait σ) (pwait σ) = mlay V t 8 (pwait σ) (fto (pwait σ) (fun _ => 0) 8) := mlay_c (fun _ _ => rfl) (fun i hi => by unfold fto; rw [if_pos hi])
      simp (disch := (first | assumption | exact xnl_i _ | exact xnl_r _ | exact xnl_n | exact Bool.toNat_lt _ | exact hb _ | exact hb2 _ | omega | exact Nat.le_of_ble_eq_true rfl | rfl | decide)) only [pX5_laysWaits_2, pX5_laysWaits_3, pX5_laysWaits_5, pX5_laysWaits_8, pX5_laysWaits_9, pX5_laysWaits_12, pX5_laysWaits_13, pX5_laysWaits_14, pX5_laysWaits_15, pX5_laysWaits_18, pX5_laysWaits_19, pX5_laysWaits_20, pX5_laysWaits_23, pX5_laysWaits_24, pX5_laysWaits_25, pX5_laysWaits_28, pX5_laysWaits_29, pX5_laysWaits_30, pX5_laysWaits_31, pX5_laysWaits_34, pX5_laysWaits_37, pX5_laysWaits_38, nI_add, pk_mul, xn_sub, xn_and, xn_or, xn_xor, xn_shl, xn_shr, xn_lt, xn_le, xn_eq, xrf_some, xup_eq, xup_ne, xrow_eq, xrow_ne, Option.toList_some, Option.toList_none, List.singleton_append, List.nil_append, List.cons_append, xnl_n, xnl_i, xnl_r, Nat.zero_add, Nat.add_zero, ↓reduceIte, Nat.reduceEqDiff, Nat.reduceLeDiff, Nat.reduceAdd, Nat.reduceMul, Nat.reduceLT, Nat.one_ne_zero, eq_self, not_true_eq_false, not_false_eq_true, and_self]
      rw [e]
      exact loop1 8 0 _ none none rfl (fto_lt (fun i hi => pwait_lt hw hi))
    | succ k ih =>
      intro i hn
      have h : ¬ 8 ≤ i := by omega
      have hi8 : i < 8 := by omega
      have ih2 := ih (i + 1) (by omega)
      rw [← mlay_s] at ih2
      have hm : mV (mlay V t i (pwait σ) (pwait σ)) t σ := mlay_V hσ
      rw [pX5_laysWaits_2]
      simp (disch := (first | assumption | exact xnl_i _ | exact xnl_r _ | exact xnl_n | exact Bool.toNat_lt _ | exact hb _ | exact hb2 _ | omega | exact Nat.le_of_ble_eq_true rfl | rfl | decide)) only [pX5_laysWaits_3, pX5_laysWaits_5, pX5_laysWaits_8, pX5_laysWaits_9, pX5_laysWaits_12, pX5_laysWaits_13, pX5_laysWaits_14, pX5_laysWaits_15, pX5_laysWaits_18, pX5_laysWaits_19, pX5_laysWaits_20, pX5_laysWaits_23, pX5_laysWaits_24, pX5_laysWaits_25, pX5_laysWaits_28, pX5_laysWaits_29, pX5_laysWaits_30, pX5_laysWaits_31, pX5_laysWaits_34, nI_add, pk_mul, xn_sub, xn_and, xn_or, xn_xor, xn_shl, xn_shr, xn_lt, xn_le, xn_eq, xrf_some, xup_eq, xup_ne, xrow_eq, xrow_ne, Option.toList_some, Option.toList_none, List.singleton_append, List.nil_append, List.cons_append, xnl_n, xnl_i, xnl_r, Nat.zero_add, Nat.add_zero, ↓reduceIte, Nat.reduceEqDiff, Nat.reduceLeDiff, Nat.reduceAdd, Nat.reduceMul, Nat.reduceLT, Nat.one_ne_zero, eq_self, not_true_eq_false, not_false_eq_true, and_self, k0, r1, r2, r3, r5, r6, r7, r9, r10, r14, h, s_waitsFor hS hm hw]
      exact ih2
  have := loop0 8 0 rfl
  rw [mlay_0] at this
  show xX E mX5_laysWaits 0 [some (.ref t), none, none, none] [] S V Q ↔ _
  simp (disch := (first | assumption | exact xnl_i _ | exact xnl_r _ | exact xnl_n | exact Bool.toNat_lt _ | exact hb _ | exact hb2 _ | omega | exact Nat.le_of_ble_eq_true rfl | rfl | decide)) only [pX5_laysWaits_0, pX5_laysWaits_1, nI_add, pk_mul, xn_sub, xn_and, xn_or, xn_xor, xn_shl, xn_shr, xn_lt, xn_le, xn_eq, xrf_some, xup_eq, xup_ne, xrow_eq, xrow_ne, Option.toList_some, Option.toList_none, List.singleton_append, List.nil_append, List.cons_append, xnl_n, xnl_i, xnl_r, Nat.zero_add, Nat.add_zero, ↓reduceIte, Nat.reduceEqDiff, Nat.reduceLeDiff, Nat.reduceAdd, Nat.reduceMul, Nat.reduceLT, Nat.one_ne_zero, eq_self, not_true_eq_false, not_false_eq_true, and_self]
  exact this
theorem mW_V (h : mV V t σ) : mV (mW V t σ) t σ := mlay_V h
theorem mW_8 {i : Nat} (h : i < 8) : mW V t σ (t + 8) i = nI (pfar σ i) := mlay_8 h
theorem mW_ne {a i : Nat} (h1 : ¬ a = t + 7) (h2 : ¬ a = t + 8) : mW V t σ a i = V a i := mlay_ne h1 h2
theorem s_lent (hS : mShape S t) (hσ : mV V t σ) (hw : wf σ) (hf : ∀ i, i < 8 → V (t + 8) i = nI (pfar σ i)) {c : Nat} (hc : c < 8) : xC E mX5_lent [.ref t, .int (nI c)] S V Q ↔ Q (some (.int (nI (plent σ c)))) S V := by
  have hS' := hS; obtain ⟨k0, r1, r2, r3, r5, r6, r7, r9, r10, r14, k1, n1, k2, n2, k3, n3, k4, n4, k5, n5, k6, n6, k7, n7, k8, n8, k9, n9⟩ := hS'; have hb := wf_b hw; have hv : ∀ i, V (t + 1) i = nI (σ i) := hσ
  have loop : ∀ k i l4, i + k = 8 → (xX E mX5_lent 9 [some (.ref t), some (.int (nI c)), some (.int (nI (plentN σ (pfar σ) c i))), some (.int (nI i)), l4] [] S V Q ↔ Q (some (.int (nI (plent σ c)))) S V) := by
    intro k
    induction k with
    | zero =>
      intro i l4 hn
      have hi : i = 8 := by omega
      subst hi
      simp (disch := (first | assumption | exact xnl_i _ | exact xnl_r _ | exact xnl_n | exact Bool.toNat_lt _ | exact hb _ | exact hb2 _ | omega | exact Nat.le_of_ble_eq_true rfl | rfl | decide)) only [pX5_lent_0, pX5_lent_1, pX5_lent_2, pX5_lent_3, pX5_lent_6, pX5_lent_7, pX5_lent_8, pX5_lent_9, pX5_lent_10, pX5_lent_12, pX5_lent_15, pX5_lent_16, pX5_lent_19, pX5_lent_20, pX5_lent_21, pX5_lent_22, pX5_lent_23, pX5_lent_24, pX5_lent_25, pX5_lent_26, pX5_lent_29, pX5_lent_30, pX5_lent_33, pX5_lent_34, pX5_lent_36, pX5_lent_38, pX5_lent_41, pX5_lent_42, pX5_lent_43, pX5_lent_44, pX5_lent_47, pX5_lent_48, pX5_lent_51, pX5_lent_52, pX5_lent_53, pX5_lent_54, pX5_lent_57, pX5_lent_60, pX5_lent_61, pX5_lent_62, pX5_lent_65, pX5_lent_68, pX5_lent_69, nI_add, pk_mul, xn_sub, xn_and, xn_or, xn_xor, xn_shl, xn_shr, xn_lt, xn_le, xn_eq, xrf_some, xup_eq, xup_ne, xrow_eq, xrow_ne, Option.toList_some, Option.toList_none, List.singleton_append, List.nil_append, List.cons_append, xnl_n, xnl_i, xnl_r, Nat.zero_add, Nat.add_zero, ↓reduceIte, Nat.reduceEqDiff, Nat.reduceLeDiff, Nat.reduceAdd, Nat.reduceMul, Nat.reduceLT, Nat.one_ne_zero, eq_self, not_true_eq_false, not_false_eq_true, and_self]
      rfl
    | succ k ih =>
      intro i l4 hn
      have h : ¬ 8 ≤ i := by omega
      have hi8 : i < 8 := by omega
      have hfi := hf i hi8
      have hb2 : pfar σ i < 2147483648 := Nat.lt_trans (pfar_lt hw i) (by decide)
      have hb3 : pfar σ i / 2 ^ c < 2147483648 := div_lt c hb2
      have hb4 : pfar σ i / 2 ^ c &&& 1 < 2147483648 := and1_lt _
      have hpl : plentN σ (pfar σ) c i < 2147483648 := by
        have : ∀ i, plentN σ (pfar σ) c i < 2147483648 := by
          intro i
          induction i with
          | zero => exact hb _
          | succ n ihn => unfold plentN; split; exact hb _; exact ihn
        exact this i
      have ih2 := fun l4 => ih (i + 1) l4 (by omega)
      rw [pX5_lent_9]
      by_cases hq : (pfar σ i).testBit c = true
      · have hq' : pfar σ i / 2 ^ c &&& 1 = 1 := (tb_and _ _).mpr hq
        by_cases hp : plentN σ (pfar σ) c i < σ (62 * i + 3)
        · have e : plentN σ (pfar σ) c (i + 1) = σ (62 * i + 3) := by unfold plentN; rw [if_pos ⟨hq, hp⟩]
          rw [e] at ih2
          have hp' : ¬ σ (62 * i + 3) ≤ plentN σ (pfar σ) c i := by omega
          simp (disch := (first | assumption | exact xnl_i _ | exact xnl_r _ | exact xnl_n | exact Bool.toNat_lt _ | exact hb _ | exact hb2 _ | omega | exact Nat.le_of_ble_eq_true rfl | rfl | decide)) only [pX5_lent_0, pX5_lent_1, pX5_lent_2, pX5_lent_3, pX5_lent_6, pX5_lent_7, pX5_lent_8, pX5_lent_10, pX5_lent_12, pX5_lent_15, pX5_lent_16, pX5_lent_19, pX5_lent_20, pX5_lent_21, pX5_lent_22, pX5_lent_23, pX5_lent_24, pX5_lent_25, pX5_lent_26, pX5_lent_29, pX5_lent_30, pX5_lent_33, pX5_lent_34, pX5_lent_36, pX5_lent_38, pX5_lent_41, pX5_lent_42, pX5_lent_43, pX5_lent_44, pX5_lent_47, pX5_lent_48, pX5_lent_51, pX5_lent_52, pX5_lent_53, pX5_lent_54, pX5_lent_57, pX5_lent_60, pX5_lent_61, pX5_lent_62, pX5_lent_65, pX5_lent_68, pX5_lent_69, nI_add, pk_mul, xn_sub, xn_and, xn_or, xn_xor, xn_shl, xn_shr, xn_lt, xn_le, xn_eq, xrf_some, xup_eq, xup_ne, xrow_eq, xrow_ne, Option.toList_some, Option.toList_none, List.singleton_append, List.nil_append, List.cons_append, xnl_n, xnl_i, xnl_r, Nat.zero_add, Nat.add_zero, ↓reduceIte, Nat.reduceEqDiff, Nat.reduceLeDiff, Nat.reduceAdd, Nat.reduceMul, Nat.reduceLT, Nat.one_ne_zero, eq_self, not_true_eq_false, not_false_eq_true, and_self, k0, r1, r2, r3, r5, r6, r7, r9, r10, r14, h, s_get hS, hv, hfi, hq', hp', ih2]
        · have e : plentN σ (pfar σ) c (i + 1) = plentN σ (pfar σ) c i := by rw [plentN, if_neg (fun z => hp z.2)]
          rw [e] at ih2
          have hp' : σ (62 * i + 3) ≤ plentN σ (pfar σ) c i := by omega
          simp (disch := (first | assumption | exact xnl_i _ | exact xnl_r _ | exact xnl_n | exact Bool.toNat_lt _ | exact hb _ | exact hb2 _ | omega | exact Nat.le_of_ble_eq_true rfl | rfl | decide)) only [pX5_lent_0, pX5_lent_1, pX5_lent_2, pX5_lent_3, pX5_lent_6, pX5_lent_7, pX5_lent_8, pX5_lent_10, pX5_lent_12, pX5_lent_15, pX5_lent_16, pX5_lent_19, pX5_lent_20, pX5_lent_21, pX5_lent_22, pX5_lent_23, pX5_lent_24, pX5_lent_25, pX5_lent_26, pX5_lent_29, pX5_lent_30, pX5_lent_33, pX5_lent_34, pX5_lent_36, pX5_lent_38, pX5_lent_41, pX5_lent_42, pX5_lent_43, pX5_lent_44, pX5_lent_47, pX5_lent_48, pX5_lent_51, pX5_lent_52, pX5_lent_53, pX5_lent_54, pX5_lent_57, pX5_lent_60, pX5_lent_61, pX5_lent_62, pX5_lent_65, pX5_lent_68, pX5_lent_69, nI_add, pk_mul, xn_sub, xn_and, xn_or, xn_xor, xn_shl, xn_shr, xn_lt, xn_le, xn_eq, xrf_some, xup_eq, xup_ne, xrow_eq, xrow_ne, Option.toList_some, Option.toList_none, List.singleton_append, List.nil_append, List.cons_append, xnl_n, xnl_i, xnl_r, Nat.zero_add, Nat.add_zero, ↓reduceIte, Nat.reduceEqDiff, Nat.reduceLeDiff, Nat.reduceAdd, Nat.reduceMul, Nat.reduceLT, Nat.one_ne_zero, eq_self, not_true_eq_false, not_false_eq_true, and_self, k0, r1, r2, r3, r5, r6, r7, r9, r10, r14, h, s_get hS, hv, hfi, hq', hp', ih2]
      · have hq' : ¬ pfar σ i / 2 ^ c &&& 1 = 1 := fun z => hq ((tb_and _ _).mp z)
        have e : plentN σ (pfar σ) c (i + 1) = plentN σ (pfar σ) c i := by rw [plentN, if_neg (fun z => hq z.1)]
        rw [e] at ih2
        simp (disch := (first | assumption | exact xnl_i _ | exact xnl_r _ | exact xnl_n | exact Bool.toNat_lt _ | exact hb _ | exact hb2 _ | omega | exact Nat.le_of_ble_eq_true rfl | rfl | decide)) only [pX5_lent_0, pX5_lent_1, pX5_lent_2, pX5_lent_3, pX5_lent_6, pX5_lent_7, pX5_lent_8, pX5_lent_10, pX5_lent_12, pX5_lent_15, pX5_lent_16, pX5_lent_19, pX5_lent_20, pX5_lent_21, pX5_lent_22, pX5_lent_23, pX5_lent_24, pX5_lent_25, pX5_lent_26, pX5_lent_29, pX5_lent_30, pX5_lent_33, pX5_lent_34, pX5_lent_36, pX5_lent_38, pX5_lent_41, pX5_lent_42, pX5_lent_43, pX5_lent_44, pX5_lent_47, pX5_lent_48, pX5_lent_51, pX5_lent_52, pX5_lent_53, pX5_lent_54, pX5_lent_57, pX5_lent_60, pX5_lent_61, pX5_lent_62, pX5_lent_65, pX5_lent_68, pX5_lent_69, nI_add, pk_mul, xn_sub, xn_and, xn_or, xn_xor, xn_shl, xn_shr, xn_lt, xn_le, xn_eq, xrf_some, xup_eq, xup_ne, xrow_eq, xrow_ne, Option.toList_some, Option.toList_none, List.singleton_append, List.nil_append, List.cons_append, xnl_n, xnl_i, xnl_r, Nat.zero_add, Nat.add_zero, ↓reduceIte, Nat.reduceEqDiff, Nat.reduceLeDiff, Nat.reduceAdd, Nat.reduceMul, Nat.reduceLT, Nat.one_ne_zero, eq_self, not_true_eq_false, not_false_eq_true, and_self, k0, r1, r2, r3, r5, r6, r7, r9, r10, r14, h, s_get hS, hv, hfi, hq', ih2]
  show xX E mX5_lent 0 [some (.ref t), some (.int (nI c)), none, none, none] [] S V Q ↔ _
  simp (disch := (first | assumption | exact xnl_i _ | exact xnl_r _ | exact xnl_n | exact Bool.toNat_lt _ | exact hb _ | exact hb2 _ | omega | exact Nat.le_of_ble_eq_true rfl | rfl | decide)) only [pX5_lent_0, pX5_lent_1, pX5_lent_2, pX5_lent_3, pX5_lent_6, pX5_lent_7, pX5_lent_8, nI_add, pk_mul, xn_sub, xn_and, xn_or, xn_xor, xn_shl, xn_shr, xn_lt, xn_le, xn_eq, xrf_some, xup_eq, xup_ne, xrow_eq, xrow_ne, Option.toList_some, Option.toList_none, List.singleton_append, List.nil_append, List.cons_append, xnl_n, xnl_i, xnl_r, Nat.zero_add, Nat.add_zero, ↓reduceIte, Nat.reduceEqDiff, Nat.reduceLeDiff, Nat.reduceAdd, Nat.reduceMul, Nat.reduceLT, Nat.one_ne_zero, eq_self, not_true_eq_false, not_false_eq_true, and_self, s_get hS, hv]
  exact loop 8 0 none rfl
end MFR
