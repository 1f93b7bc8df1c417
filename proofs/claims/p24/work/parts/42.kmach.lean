/-! ===== the class: a machine, its contexts' states ===== -/
def hI (n : Nat) : Int32 := if n = 0 then -6 else nI (n - 1)
def kShape (S : xSh) (mb : Nat) : Prop :=
  xkd S mb = 3 ∧ xrf S mb 0 = some (mb + 1) ∧ xrf S mb 1 = some (mb + 2) ∧ xrf S mb 2 = some (mb + 3) ∧ xkd S (mb + 1) = 10 ∧ xln S (mb + 1) = 8 ∧ xkd S (mb + 2) = 7 ∧ xln S (mb + 2) = 4 ∧ xkd S (mb + 3) = 7 ∧ xln S (mb + 3) = 8 ∧ ∀ c, c < 8 → xrf S (mb + 1) c = some (mb + (4 + 5 * c)) ∧ cShape S (mb + (4 + 5 * c))
def kN (V : xV) (mb : Nat) (σ : Nat → Nat) : Prop :=
  (∀ c, c < 8 → kC V (mb + (4 + 5 * c)) σ c) ∧ (∀ k, k < 4 → V (mb + 2) k = hI (σ (497 + k))) ∧ V mb 4 = nI (psum σ 13 8) ∧ V mb 5 = nI (psum σ 12 8)
def kOut (V V' : xV) (mb : Nat) : Prop := ∀ a, a < mb ∨ mb + 43 < a → V' a = V a
theorem hI_0 : hI 0 = -6 := rfl
theorem hI_s {n : Nat} (h : ¬ n = 0) : hI n = nI (n - 1) := if_neg h
theorem hI_6 {n : Nat} (h : n < 1000000) : hI n = -6 ↔ n = 0 := by
  by_cases h0 : n = 0
  · simp [h0, hI_0]
  · rw [hI_s h0]
    have := xn_ne6' (c := n - 1) (by omega)
    simp [this, h0]
/-- and its slots passed -/
def kM (V : xV) (mb : Nat) (σ : Nat → Nat) : Prop := kN V mb σ ∧ V mb 3 = nI (σ 496)
section KMA
variable {E : Nat × Nat × Nat} {S : xSh} {V V' W : xV} {Q : Option Value → xSh → xV → Prop} {mb c : Nat} {σ : Nat → Nat}
theorem kOut_r : kOut V V mb := fun _ _ => rfl
theorem kOut_t (h1 : kOut V V' mb) (h2 : kOut V' W mb) : kOut V W mb := fun a ha => (h2 a ha).trans (h1 a ha)
theorem kOut_up {a j : Nat} {v : Int32} (h : mb ≤ a ∧ a ≤ mb + 43) : kOut V (xup V a j v) mb := fun d hd => by funext i; exact xup_ne (by omega)
theorem kOut_row {a : Nat} {f : Nat → Int32} (h : mb ≤ a ∧ a ≤ mb + 43) : kOut V (xrow V a f) mb := fun d hd => xrow_ne (by omega)
theorem kOut_c (hc : c < 8) (h : cOut V V' (mb + (4 + 5 * c))) : kOut V V' mb := fun a ha => h a (by omega)
theorem kC_o {b : Nat} (h : kC V b σ c) (ho : ∀ a, b ≤ a → a ≤ b + 4 → V' a = V a) : kC V' b σ c := by
  unfold kC at h ⊢
  rw [ho b (by omega) (by omega), ho (b + 1) (by omega) (by omega), ho (b + 2) (by omega) (by omega), ho (b + 3) (by omega) (by omega), ho (b + 4) (by omega) (by omega)]
  exact h
theorem kC_σ {b : Nat} {τ : Nat → Nat} (h : kC V b σ c) (h4 : σ (62 * c + 4) ≤ 4) (hcm : σ (62 * c) ≤ 16) (ho : ∀ i, 62 * c ≤ i → i < 62 * c + 62 → τ i = σ i) : kC V b τ c := by
  have em : kmk τ c = kmk σ c := bm_congr (fun p hp => by rw [ho _ (by omega) (by omega), ho _ (by omega) (by omega)])
  obtain ⟨c4, c5, c6, c7, c8, c9, c10, ca, cb, cc, cd⟩ := h
  have e0 := ho (62 * c) (by omega) (by omega)
  have e4 := ho (62 * c + 4) (by omega) (by omega)
  refine ⟨?_, ?_, ?_, ?_, ?_, ?_, ?_, fun p hp => ?_, fun p hp => ?_, fun i hi => ?_, fun i hi => ?_⟩
  · rw [e0]; exact c4
  · rw [em]; exact c5
  · rw [ho _ (by omega) (by omega)]; exact c6
  · rw [ho _ (by omega) (by omega)]; exact c7
  · rw [ho _ (by omega) (by omega)]; exact c8
  · rw [e4]; exact c9
  · rw [ho _ (by omega) (by omega)]; exact c10
  · rw [e0] at hp; rw [ca p hp]; exact congrArg nI (ho (62 * c + (14 + 3 * p)) (by omega) (by omega)).symm
  · rw [e0] at hp; rw [cb p hp]; exact congrArg nI (ho (62 * c + (14 + 3 * p + 1)) (by omega) (by omega)).symm
  · rw [e4] at hi; rw [ho _ (by omega) (by omega)]; exact cc i hi
  · rw [ho _ (by omega) (by omega)]; exact cd i hi
theorem kN_o (h : kN V mb σ) (ho : ∀ a, mb ≤ a → a ≤ mb + 43 → ¬ a = mb + 3 → V' a = V a) : kN V' mb σ := by
  obtain ⟨h1, h2, h4, h5⟩ := h
  exact ⟨fun c hc => kC_o (h1 c hc) (fun a h1 h2 => ho a (by omega) (by omega) (by omega)), fun k hk => by rw [ho (mb + 2) (by omega) (by omega) (by omega)]; exact h2 k hk, by rw [ho mb (by omega) (by omega) (by omega)]; exact h4, by rw [ho mb (by omega) (by omega) (by omega)]; exact h5⟩
theorem psum_c {σ τ : Nat → Nat} {w : Nat} (h : ∀ c, c < 8 → τ (62 * c + w) = σ (62 * c + w)) : psum τ w 8 = psum σ w 8 := by
  have : ∀ n, n ≤ 8 → psum τ w n = psum σ w n := by
    intro n
    induction n with
    | zero => intro _; rfl
    | succ n ih => intro hn; unfold psum; rw [ih (by omega), h n (by omega)]
  exact this 8 (Nat.le_refl _)
/-- a change within one context -/
theorem kN_c {τ : Nat → Nat} (h : kN V mb σ) (hw : ∀ d, d < 8 → σ (62 * d + 4) ≤ 4 ∧ σ (62 * d) ≤ 16) (hc : c < 8) (hv : cOut V V' (mb + (4 + 5 * c))) (hs : ∀ i, i < 62 * c ∨ 62 * c + 62 ≤ i → τ i = σ i) (hk : kC V' (mb + (4 + 5 * c)) τ c) (h13 : τ (62 * c + 13) = σ (62 * c + 13)) (h12 : τ (62 * c + 12) = σ (62 * c + 12)) : kN V' mb τ := by
  obtain ⟨h1, h2, h4, h5⟩ := h
  refine ⟨fun d hd => ?_, fun k hk => ?_, ?_, ?_⟩
  · by_cases hdc : d = c
    · subst hdc; exact hk
    · refine kC_o (kC_σ (h1 d hd) (hw d hd).1 (hw d hd).2 (fun i h1 h2 => hs i (by omega))) (fun a h1 h2 => hv a (by omega))
  · rw [hv (mb + 2) (by omega), hs _ (by omega)]; exact h2 k hk
  · rw [hv mb (by omega), psum_c (σ := σ) (fun d hd => by
      by_cases hdc : d = c
      · subst hdc; exact h13
      · exact hs _ (by omega))]; exact h4
  · rw [hv mb (by omega), psum_c (σ := σ) (fun d hd => by
      by_cases hdc : d = c
      · subst hdc; exact h12
      · exact hs _ (by omega))]; exact h5
theorem k_stateOf (hS : kShape S mb) (hK : kN V mb σ) (hw : wf σ) (hc : c < 8) : xC E mX2_stateOf [.ref mb, .int (nI c)] S V Q ↔ Q (some (.int (nI (pst σ c)))) S V := by
  obtain ⟨mk0, mr0, mr1, mr2, mk1, mn1, mk2, mn2, mk3, mn3, mcs⟩ := hS
  obtain ⟨mrc, hcs⟩ := mcs c hc
  obtain ⟨ck0, cr0, cr1, cr2, cr3, ck1, cn1, ck2, cn2, ck3, cn3, ck4, cn4⟩ := hcs
  have hb := wf_b hw
  obtain ⟨w1, w2, w3, w4, w5, w6, w7, w8, w9⟩ := hw.2.1 c hc
  obtain ⟨c4, c5, c6, c7, c8, c9, c10, ca, cb, cc, cd⟩ := hK.1 c hc
  have hh := hK.2.1
  show xX E mX2_stateOf 0 [some (.ref mb), some (.int (nI c)), none, none] [] S V Q ↔ _
  simp (disch := (first | assumption | exact xnl_i _ | exact xnl_r _ | exact xnl_n | exact Bool.toNat_lt _ | exact hb _ | exact hb2 _ | omega | exact Nat.le_of_ble_eq_true rfl | rfl | decide)) only [pX2_stateOf_0, pX2_stateOf_1, pX2_stateOf_4, pX2_stateOf_5, pX2_stateOf_6, pX2_stateOf_7, pX2_stateOf_8, pX2_stateOf_11, pX2_stateOf_12, pX2_stateOf_15, nI_add, pk_mul, xn_sub, xn_and, xn_or, xn_xor, xn_shl, xn_shr, xn_lt, xn_le, xn_eq, xrf_some, xup_eq, xup_ne, xrow_eq, xrow_ne, Option.toList_some, Option.toList_none, List.singleton_append, List.nil_append, List.cons_append, xnl_n, xnl_i, xnl_r, Nat.zero_add, Nat.add_zero, ↓reduceIte, Nat.reduceEqDiff, Nat.reduceLeDiff, Nat.reduceAdd, Nat.reduceMul, Nat.reduceLT, Nat.one_ne_zero, eq_self, not_true_eq_false, not_false_eq_true, and_self, mk0, mr0, mr1, mr2, mrc, ck0, cr0, cr1, cr2, cr3, c6, c4]
  unfold pst
  by_cases h1 : σ (62 * c) ≤ σ (62 * c + 1)
  · have h1' : ¬ σ (62 * c + 1) < σ (62 * c) := by omega
    simp (disch := (first | assumption | exact xnl_i _ | exact xnl_r _ | exact xnl_n | exact Bool.toNat_lt _ | exact hb _ | exact hb2 _ | omega | exact Nat.le_of_ble_eq_true rfl | rfl | decide)) only [h1, h1', pX2_stateOf_18, pX2_stateOf_19, nI_add, pk_mul, xn_sub, xn_and, xn_or, xn_xor, xn_shl, xn_shr, xn_lt, xn_le, xn_eq, xrf_some, xup_eq, xup_ne, xrow_eq, xrow_ne, Option.toList_some, Option.toList_none, List.singleton_append, List.nil_append, List.cons_append, xnl_n, xnl_i, xnl_r, Nat.zero_add, Nat.add_zero, ↓reduceIte, Nat.reduceEqDiff, Nat.reduceLeDiff, Nat.reduceAdd, Nat.reduceMul, Nat.reduceLT, Nat.one_ne_zero, eq_self, not_true_eq_false, not_false_eq_true, and_self]
  · have h1' : σ (62 * c + 1) < σ (62 * c) := by omega
    have hp : σ (62 * c + 1) < 16 := by omega
    by_cases h2 : 0 < σ (62 * c + 9)
    · have h2' : ¬ σ (62 * c + 9) ≤ 0 := by omega
      simp (disch := (first | assumption | exact xnl_i _ | exact xnl_r _ | exact xnl_n | exact Bool.toNat_lt _ | exact hb _ | exact hb2 _ | omega | exact Nat.le_of_ble_eq_true rfl | rfl | decide)) only [h1, h1', h2, h2', pX2_stateOf_20, pX2_stateOf_21, pX2_stateOf_24, pX2_stateOf_27, pX2_stateOf_28, nI_add, pk_mul, xn_sub, xn_and, xn_or, xn_xor, xn_shl, xn_shr, xn_lt, xn_le, xn_eq, xrf_some, xup_eq, xup_ne, xrow_eq, xrow_ne, Option.toList_some, Option.toList_none, List.singleton_append, List.nil_append, List.cons_append, xnl_n, xnl_i, xnl_r, Nat.zero_add, Nat.add_zero, ↓reduceIte, Nat.reduceEqDiff, Nat.reduceLeDiff, Nat.reduceAdd, Nat.reduceMul, Nat.reduceLT, Nat.one_ne_zero, eq_self, not_true_eq_false, not_false_eq_true, and_self, ck0, cr0, cr1, cr2, cr3, c10]
    · have h2' : σ (62 * c + 9) ≤ 0 := by omega
      obtain ⟨hok, hmk⟩ := w9 (σ (62 * c + 1)) (by omega)
      have hca := ca _ h1'
      have hcb := cb _ h1'
      generalize hk : pcmd σ c (σ (62 * c + 1)) = k at hok hca
      generalize hn : parg σ c (σ (62 * c + 1)) = n at hok hcb
      simp (disch := (first | assumption | exact xnl_i _ | exact xnl_r _ | exact xnl_n | exact Bool.toNat_lt _ | exact hb _ | exact hb2 _ | omega | exact Nat.le_of_ble_eq_true rfl | rfl | decide)) only [h1, h1', h2, h2', pX2_stateOf_20, pX2_stateOf_21, pX2_stateOf_24, pX2_stateOf_27, pX2_stateOf_28, pX2_stateOf_29, pX2_stateOf_30, pX2_stateOf_33, pX2_stateOf_34, pX2_stateOf_37, pX2_stateOf_38, pX2_stateOf_39, pX2_stateOf_40, pX2_stateOf_43, pX2_stateOf_44, pX2_stateOf_47, nI_add, pk_mul, xn_sub, xn_and, xn_or, xn_xor, xn_shl, xn_shr, xn_lt, xn_le, xn_eq, xrf_some, xup_eq, xup_ne, xrow_eq, xrow_ne, Option.toList_some, Option.toList_none, List.singleton_append, List.nil_append, List.cons_append, xnl_n, xnl_i, xnl_r, Nat.zero_add, Nat.add_zero, ↓reduceIte, Nat.reduceEqDiff, Nat.reduceLeDiff, Nat.reduceAdd, Nat.reduceMul, Nat.reduceLT, Nat.one_ne_zero, eq_self, not_true_eq_false, not_false_eq_true, and_self, ck0, cr0, cr1, cr2, cr3, c10, c6, hca, hcb]
      rcases hok with ⟨rfl, hq⟩ | ⟨rfl, hq⟩ | ⟨rfl, rfl⟩ | ⟨rfl, hq⟩ | ⟨rfl, hq⟩ | ⟨rfl, hq⟩ | ⟨rfl, hq⟩
      · simp (disch := (first | assumption | exact xnl_i _ | exact xnl_r _ | exact xnl_n | exact Bool.toNat_lt _ | exact hb _ | exact hb2 _ | omega | exact Nat.le_of_ble_eq_true rfl | rfl | decide)) only [pX2_stateOf_48_k1, pX2_stateOf_48_k2, pX2_stateOf_48_k3, pX2_stateOf_48_d, pX2_stateOf_76, pX2_stateOf_77, pX2_stateOf_80, pX2_stateOf_81, pX2_stateOf_82, pX2_stateOf_85, pX2_stateOf_86, pX2_stateOf_89, pX2_stateOf_90, pX2_stateOf_93, pX2_stateOf_94, pX2_stateOf_95, pX2_stateOf_96, pX2_stateOf_99, pX2_stateOf_102, pX2_stateOf_103, pX2_stateOf_106, pX2_stateOf_107, pX2_stateOf_108, pX2_stateOf_109, pX2_stateOf_112, pX2_stateOf_113, pX2_stateOf_114, pX2_stateOf_116, pX2_stateOf_119, pX2_stateOf_120, pX2_stateOf_123, pX2_stateOf_124, pX2_stateOf_125, pX2_stateOf_126, nI_add, pk_mul, xn_sub, xn_and, xn_or, xn_xor, xn_shl, xn_shr, xn_lt, xn_le, xn_eq, xrf_some, xup_eq, xup_ne, xrow_eq, xrow_ne, Option.toList_some, Option.toList_none, List.singleton_append, List.nil_append, List.cons_append, xnl_n, xnl_i, xnl_r, Nat.zero_add, Nat.add_zero, ↓reduceIte, Nat.reduceEqDiff, Nat.reduceLeDiff, Nat.reduceAdd, Nat.reduceMul, Nat.reduceLT, Nat.one_ne_zero, eq_self, not_true_eq_false, not_false_eq_true, and_self]
      · obtain ⟨mrn, hns⟩ := mcs n (by omega)
        have nk0 := hns.1
        have n9 := (hK.1 n (by omega)).2.2.2.2.2.1
        have hr4 := (hw.2.1 n (by omega)).2.2.2.2.1
        by_cases h : σ (62 * n + 4) = 4
        · simp (disch := (first | assumption | exact xnl_i _ | exact xnl_r _ | exact xnl_n | exact Bool.toNat_lt _ | exact hb _ | exact hb2 _ | omega | exact Nat.le_of_ble_eq_true rfl | rfl | decide)) only [pX2_stateOf_48_k1, pX2_stateOf_48_k2, pX2_stateOf_48_k3, pX2_stateOf_48_d, pX2_stateOf_76, pX2_stateOf_77, pX2_stateOf_80, pX2_stateOf_81, pX2_stateOf_82, pX2_stateOf_85, pX2_stateOf_86, pX2_stateOf_89, pX2_stateOf_90, pX2_stateOf_93, pX2_stateOf_94, pX2_stateOf_95, pX2_stateOf_96, pX2_stateOf_99, pX2_stateOf_102, pX2_stateOf_103, pX2_stateOf_106, pX2_stateOf_107, pX2_stateOf_108, pX2_stateOf_109, pX2_stateOf_112, pX2_stateOf_113, pX2_stateOf_114, pX2_stateOf_116, pX2_stateOf_119, pX2_stateOf_120, pX2_stateOf_123, pX2_stateOf_124, pX2_stateOf_125, pX2_stateOf_126, nI_add, pk_mul, xn_sub, xn_and, xn_or, xn_xor, xn_shl, xn_shr, xn_lt, xn_le, xn_eq, xrf_some, xup_eq, xup_ne, xrow_eq, xrow_ne, Option.toList_some, Option.toList_none, List.singleton_append, List.nil_append, List.cons_append, xnl_n, xnl_i, xnl_r, Nat.zero_add, Nat.add_zero, ↓reduceIte, Nat.reduceEqDiff, Nat.reduceLeDiff, Nat.reduceAdd, Nat.reduceMul, Nat.reduceLT, Nat.one_ne_zero, eq_self, not_true_eq_false, not_false_eq_true, and_self, mk0, mr0, mr1, mr2, mrn, nk0, n9, h]
        · have h' : σ (62 * n + 4) < 4 := by omega
          simp (disch := (first | assumption | exact xnl_i _ | exact xnl_r _ | exact xnl_n | exact Bool.toNat_lt _ | exact hb _ | exact hb2 _ | omega | exact Nat.le_of_ble_eq_true rfl | rfl | decide)) only [pX2_stateOf_48_k1, pX2_stateOf_48_k2, pX2_stateOf_48_k3, pX2_stateOf_48_d, pX2_stateOf_76, pX2_stateOf_77, pX2_stateOf_80, pX2_stateOf_81, pX2_stateOf_82, pX2_stateOf_85, pX2_stateOf_86, pX2_stateOf_89, pX2_stateOf_90, pX2_stateOf_93, pX2_stateOf_94, pX2_stateOf_95, pX2_stateOf_96, pX2_stateOf_99, pX2_stateOf_102, pX2_stateOf_103, pX2_stateOf_106, pX2_stateOf_107, pX2_stateOf_108, pX2_stateOf_109, pX2_stateOf_112, pX2_stateOf_113, pX2_stateOf_114, pX2_stateOf_116, pX2_stateOf_119, pX2_stateOf_120, pX2_stateOf_123, pX2_stateOf_124, pX2_stateOf_125, pX2_stateOf_126, nI_add, pk_mul, xn_sub, xn_and, xn_or, xn_xor, xn_shl, xn_shr, xn_lt, xn_le, xn_eq, xrf_some, xup_eq, xup_ne, xrow_eq, xrow_ne, Option.toList_some, Option.toList_none, List.singleton_append, List.nil_append, List.cons_append, xnl_n, xnl_i, xnl_r, Nat.zero_add, Nat.add_zero, ↓reduceIte, Nat.reduceEqDiff, Nat.reduceLeDiff, Nat.reduceAdd, Nat.reduceMul, Nat.reduceLT, Nat.one_ne_zero, eq_self, not_true_eq_false, not_false_eq_true, and_self, mk0, mr0, mr1, mr2, mrn, nk0, n9, h, h']
      · by_cases h : σ (62 * c + 4) = 0
        · simp (disch := (first | assumption | exact xnl_i _ | exact xnl_r _ | exact xnl_n | exact Bool.toNat_lt _ | exact hb _ | exact hb2 _ | omega | exact Nat.le_of_ble_eq_true rfl | rfl | decide)) only [pX2_stateOf_48_k1, pX2_stateOf_48_k2, pX2_stateOf_48_k3, pX2_stateOf_48_d, pX2_stateOf_76, pX2_stateOf_77, pX2_stateOf_80, pX2_stateOf_81, pX2_stateOf_82, pX2_stateOf_85, pX2_stateOf_86, pX2_stateOf_89, pX2_stateOf_90, pX2_stateOf_93, pX2_stateOf_94, pX2_stateOf_95, pX2_stateOf_96, pX2_stateOf_99, pX2_stateOf_102, pX2_stateOf_103, pX2_stateOf_106, pX2_stateOf_107, pX2_stateOf_108, pX2_stateOf_109, pX2_stateOf_112, pX2_stateOf_113, pX2_stateOf_114, pX2_stateOf_116, pX2_stateOf_119, pX2_stateOf_120, pX2_stateOf_123, pX2_stateOf_124, pX2_stateOf_125, pX2_stateOf_126, nI_add, pk_mul, xn_sub, xn_and, xn_or, xn_xor, xn_shl, xn_shr, xn_lt, xn_le, xn_eq, xrf_some, xup_eq, xup_ne, xrow_eq, xrow_ne, Option.toList_some, Option.toList_none, List.singleton_append, List.nil_append, List.cons_append, xnl_n, xnl_i, xnl_r, Nat.zero_add, Nat.add_zero, ↓reduceIte, Nat.reduceEqDiff, Nat.reduceLeDiff, Nat.reduceAdd, Nat.reduceMul, Nat.reduceLT, Nat.one_ne_zero, eq_self, not_true_eq_false, not_false_eq_true, and_self, ck0, cr0, cr1, cr2, cr3, c9, h]
        · simp (disch := (first | assumption | exact xnl_i _ | exact xnl_r _ | exact xnl_n | exact Bool.toNat_lt _ | exact hb _ | exact hb2 _ | omega | exact Nat.le_of_ble_eq_true rfl | rfl | decide)) only [pX2_stateOf_48_k1, pX2_stateOf_48_k2, pX2_stateOf_48_k3, pX2_stateOf_48_d, pX2_stateOf_76, pX2_stateOf_77, pX2_stateOf_80, pX2_stateOf_81, pX2_stateOf_82, pX2_stateOf_85, pX2_stateOf_86, pX2_stateOf_89, pX2_stateOf_90, pX2_stateOf_93, pX2_stateOf_94, pX2_stateOf_95, pX2_stateOf_96, pX2_stateOf_99, pX2_stateOf_102, pX2_stateOf_103, pX2_stateOf_106, pX2_stateOf_107, pX2_stateOf_108, pX2_stateOf_109, pX2_stateOf_112, pX2_stateOf_113, pX2_stateOf_114, pX2_stateOf_116, pX2_stateOf_119, pX2_stateOf_120, pX2_stateOf_123, pX2_stateOf_124, pX2_stateOf_125, pX2_stateOf_126, nI_add, pk_mul, xn_sub, xn_and, xn_or, xn_xor, xn_shl, xn_shr, xn_lt, xn_le, xn_eq, xrf_some, xup_eq, xup_ne, xrow_eq, xrow_ne, Option.toList_some, Option.toList_none, List.singleton_append, List.nil_append, List.cons_append, xnl_n, xnl_i, xnl_r, Nat.zero_add, Nat.add_zero, ↓reduceIte, Nat.reduceEqDiff, Nat.reduceLeDiff, Nat.reduceAdd, Nat.reduceMul, Nat.reduceLT, Nat.one_ne_zero, eq_self, not_true_eq_false, not_false_eq_true, and_self, ck0, cr0, cr1, cr2, cr3, c9, h]
      · have hhn := hh n (by omega)
        have hbn := hw.1 (497 + n)
        have h6 := hI_6 (n := σ (497 + n)) (by omega)
        by_cases h : σ (497 + n) = 0
        · have h' : ¬ 0 < σ (497 + n) := by omega
          have h6' := h6.mpr h
          simp (disch := (first | assumption | exact xnl_i _ | exact xnl_r _ | exact xnl_n | exact Bool.toNat_lt _ | exact hb _ | exact hb2 _ | omega | exact Nat.le_of_ble_eq_true rfl | rfl | decide)) only [pX2_stateOf_48_k1, pX2_stateOf_48_k2, pX2_stateOf_48_k3, pX2_stateOf_48_d, pX2_stateOf_76, pX2_stateOf_77, pX2_stateOf_80, pX2_stateOf_81, pX2_stateOf_82, pX2_stateOf_85, pX2_stateOf_86, pX2_stateOf_89, pX2_stateOf_90, pX2_stateOf_93, pX2_stateOf_94, pX2_stateOf_95, pX2_stateOf_96, pX2_stateOf_99, pX2_stateOf_102, pX2_stateOf_103, pX2_stateOf_106, pX2_stateOf_107, pX2_stateOf_108, pX2_stateOf_109, pX2_stateOf_112, pX2_stateOf_113, pX2_stateOf_114, pX2_stateOf_116, pX2_stateOf_119, pX2_stateOf_120, pX2_stateOf_123, pX2_stateOf_124, pX2_stateOf_125, pX2_stateOf_126, nI_add, pk_mul, xn_sub, xn_and, xn_or, xn_xor, xn_shl, xn_shr, xn_lt, xn_le, xn_eq, xrf_some, xup_eq, xup_ne, xrow_eq, xrow_ne, Option.toList_some, Option.toList_none, List.singleton_append, List.nil_append, List.cons_append, xnl_n, xnl_i, xnl_r, Nat.zero_add, Nat.add_zero, ↓reduceIte, Nat.reduceEqDiff, Nat.reduceLeDiff, Nat.reduceAdd, Nat.reduceMul, Nat.reduceLT, Nat.one_ne_zero, eq_self, not_true_eq_false, not_false_eq_true, and_self, mk0, mr0, mr1, mr2, hhn, h6', h']
        · have h' : 0 < σ (497 + n) := by omega
          have h6' : ¬ hI (σ (497 + n)) = -6 := fun z => h (h6.mp z)
          simp (disch := (first | assumption | exact xnl_i _ | exact xnl_r _ | exact xnl_n | exact Bool.toNat_lt _ | exact hb _ | exact hb2 _ | omega | exact Nat.le_of_ble_eq_true rfl | rfl | decide)) only [pX2_stateOf_48_k1, pX2_stateOf_48_k2, pX2_stateOf_48_k3, pX2_stateOf_48_d, pX2_stateOf_76, pX2_stateOf_77, pX2_stateOf_80, pX2_stateOf_81, pX2_stateOf_82, pX2_stateOf_85, pX2_stateOf_86, pX2_stateOf_89, pX2_stateOf_90, pX2_stateOf_93, pX2_stateOf_94, pX2_stateOf_95, pX2_stateOf_96, pX2_stateOf_99, pX2_stateOf_102, pX2_stateOf_103, pX2_stateOf_106, pX2_stateOf_107, pX2_stateOf_108, pX2_stateOf_109, pX2_stateOf_112, pX2_stateOf_113, pX2_stateOf_114, pX2_stateOf_116, pX2_stateOf_119, pX2_stateOf_120, pX2_stateOf_123, pX2_stateOf_124, pX2_stateOf_125, pX2_stateOf_126, nI_add, pk_mul, xn_sub, xn_and, xn_or, xn_xor, xn_shl, xn_shr, xn_lt, xn_le, xn_eq, xrf_some, xup_eq, xup_ne, xrow_eq, xrow_ne, Option.toList_some, Option.toList_none, List.singleton_append, List.nil_append, List.cons_append, xnl_n, xnl_i, xnl_r, Nat.zero_add, Nat.add_zero, ↓reduceIte, Nat.reduceEqDiff, Nat.reduceLeDiff, Nat.reduceAdd, Nat.reduceMul, Nat.reduceLT, Nat.one_ne_zero, eq_self, not_true_eq_false, not_false_eq_true, and_self, mk0, mr0, mr1, mr2, hhn, h6', h']
      · simp (disch := (first | assumption | exact xnl_i _ | exact xnl_r _ | exact xnl_n | exact Bool.toNat_lt _ | exact hb _ | exact hb2 _ | omega | exact Nat.le_of_ble_eq_true rfl | rfl | decide)) only [pX2_stateOf_48_k1, pX2_stateOf_48_k2, pX2_stateOf_48_k3, pX2_stateOf_48_d, pX2_stateOf_76, pX2_stateOf_77, pX2_stateOf_80, pX2_stateOf_81, pX2_stateOf_82, pX2_stateOf_85, pX2_stateOf_86, pX2_stateOf_89, pX2_stateOf_90, pX2_stateOf_93, pX2_stateOf_94, pX2_stateOf_95, pX2_stateOf_96, pX2_stateOf_99, pX2_stateOf_102, pX2_stateOf_103, pX2_stateOf_106, pX2_stateOf_107, pX2_stateOf_108, pX2_stateOf_109, pX2_stateOf_112, pX2_stateOf_113, pX2_stateOf_114, pX2_stateOf_116, pX2_stateOf_119, pX2_stateOf_120, pX2_stateOf_123, pX2_stateOf_124, pX2_stateOf_125, pX2_stateOf_126, nI_add, pk_mul, xn_sub, xn_and, xn_or, xn_xor, xn_shl, xn_shr, xn_lt, xn_le, xn_eq, xrf_some, xup_eq, xup_ne, xrow_eq, xrow_ne, Option.toList_some, Option.toList_none, List.singleton_append, List.nil_append, List.cons_append, xnl_n, xnl_i, xnl_r, Nat.zero_add, Nat.add_zero, ↓reduceIte, Nat.reduceEqDiff, Nat.reduceLeDiff, Nat.reduceAdd, Nat.reduceMul, Nat.reduceLT, Nat.one_ne_zero, eq_self, not_true_eq_false, not_false_eq_true, and_self]
      · simp (disch := (first | assumption | exact xnl_i _ | exact xnl_r _ | exact xnl_n | exact Bool.toNat_lt _ | exact hb _ | exact hb2 _ | omega | exact Nat.le_of_ble_eq_true rfl | rfl | decide)) only [pX2_stateOf_48_k1, pX2_stateOf_48_k2, pX2_stateOf_48_k3, pX2_stateOf_48_d, pX2_stateOf_76, pX2_stateOf_77, pX2_stateOf_80, pX2_stateOf_81, pX2_stateOf_82, pX2_stateOf_85, pX2_stateOf_86, pX2_stateOf_89, pX2_stateOf_90, pX2_stateOf_93, pX2_stateOf_94, pX2_stateOf_95, pX2_stateOf_96, pX2_stateOf_99, pX2_stateOf_102, pX2_stateOf_103, pX2_stateOf_106, pX2_stateOf_107, pX2_stateOf_108, pX2_stateOf_109, pX2_stateOf_112, pX2_stateOf_113, pX2_stateOf_114, pX2_stateOf_116, pX2_stateOf_119, pX2_stateOf_120, pX2_stateOf_123, pX2_stateOf_124, pX2_stateOf_125, pX2_stateOf_126, nI_add, pk_mul, xn_sub, xn_and, xn_or, xn_xor, xn_shl, xn_shr, xn_lt, xn_le, xn_eq, xrf_some, xup_eq, xup_ne, xrow_eq, xrow_ne, Option.toList_some, Option.toList_none, List.singleton_append, List.nil_append, List.cons_append, xnl_n, xnl_i, xnl_r, Nat.zero_add, Nat.add_zero, ↓reduceIte, Nat.reduceEqDiff, Nat.reduceLeDiff, Nat.reduceAdd, Nat.reduceMul, Nat.reduceLT, Nat.one_ne_zero, eq_self, not_true_eq_false, not_false_eq_true, and_self]
      · simp (disch := (first | assumption | exact xnl_i _ | exact xnl_r _ | exact xnl_n | exact Bool.toNat_lt _ | exact hb _ | exact hb2 _ | omega | exact Nat.le_of_ble_eq_true rfl | rfl | decide)) only [pX2_stateOf_48_k1, pX2_stateOf_48_k2, pX2_stateOf_48_k3, pX2_stateOf_48_d, pX2_stateOf_76, pX2_stateOf_77, pX2_stateOf_80, pX2_stateOf_81, pX2_stateOf_82, pX2_stateOf_85, pX2_stateOf_86, pX2_stateOf_89, pX2_stateOf_90, pX2_stateOf_93, pX2_stateOf_94, pX2_stateOf_95, pX2_stateOf_96, pX2_stateOf_99, pX2_stateOf_102, pX2_stateOf_103, pX2_stateOf_106, pX2_stateOf_107, pX2_stateOf_108, pX2_stateOf_109, pX2_stateOf_112, pX2_stateOf_113, pX2_stateOf_114, pX2_stateOf_116, pX2_stateOf_119, pX2_stateOf_120, pX2_stateOf_123, pX2_stateOf_124, pX2_stateOf_125, pX2_stateOf_126, nI_add, pk_mul, xn_sub, xn_and, xn_or, xn_xor, xn_shl, xn_shr, xn_lt, xn_le, xn_eq, xrf_some, xup_eq, xup_ne, xrow_eq, xrow_ne, Option.toList_some, Option.toList_none, List.singleton_append, List.nil_append, List.cons_append, xnl_n, xnl_i, xnl_r, Nat.zero_add, Nat.add_zero, ↓reduceIte, Nat.reduceEqDiff, Nat.reduceLeDiff, Nat.reduceAdd, Nat.reduceMul, Nat.reduceLT, Nat.one_ne_zero, eq_self, not_true_eq_false, not_false_eq_true, and_self]
end KMA

