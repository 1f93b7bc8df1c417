/-! ===== the class: a context ===== -/
def kmk (σ : Nat → Nat) (c : Nat) : Nat := bm (fun p => decide (p < σ (62 * c)) && decide (σ (62 * c + (14 + 3 * p + 2)) = 1)) 16
def cShape (S : xSh) (b : Nat) : Prop :=
  xkd S b = 1 ∧ xrf S b 0 = some (b + 1) ∧ xrf S b 1 = some (b + 2) ∧ xrf S b 2 = some (b + 3) ∧ xrf S b 3 = some (b + 4) ∧
  xkd S (b + 1) = 7 ∧ xln S (b + 1) = 16 ∧ xkd S (b + 2) = 7 ∧ xln S (b + 2) = 16 ∧ xkd S (b + 3) = 7 ∧ xln S (b + 3) = 4 ∧ xkd S (b + 4) = 7 ∧ xln S (b + 4) = 4
def kC (V : xV) (b : Nat) (σ : Nat → Nat) (c : Nat) : Prop :=
  V b 4 = nI (σ (62 * c)) ∧ V b 5 = nI (kmk σ c) ∧ V b 6 = nI (σ (62 * c + 1)) ∧ V b 7 = nI (σ (62 * c + 2)) ∧ V b 8 = nI (σ (62 * c + 3)) ∧ V b 9 = nI (σ (62 * c + 4)) ∧ V b 10 = nI (σ (62 * c + 9)) ∧
  (∀ p, p < σ (62 * c) → V (b + 1) p = nI (pcmd σ c p)) ∧ (∀ p, p < σ (62 * c) → V (b + 2) p = nI (parg σ c p)) ∧ (∀ j, j < σ (62 * c + 4) → V (b + 3) j = nI (σ (62 * c + (5 + j)))) ∧ ∀ j, j < 4 → V (b + 4) j = nI (σ (62 * c + (10 + j)))
def cOut (V V' : xV) (b : Nat) : Prop := ∀ a, a < b ∨ b + 4 < a → V' a = V a
theorem kmk_lt (σ : Nat → Nat) (c : Nat) : kmk σ c < 65536 := bm_lt _ 16
theorem kmk_bit (σ : Nat → Nat) (c p : Nat) : (kmk σ c).testBit p = (decide (p < 16) && (decide (p < σ (62 * c)) && decide (σ (62 * c + (14 + 3 * p + 2)) = 1))) := bm_bit _ 16 p
theorem tb_bool (x o : Nat) : (if x.testBit o = true then 1 else 0 : Nat) = (x.testBit o).toNat := by cases x.testBit o <;> rfl
theorem tb_lt (x o : Nat) : (x.testBit o).toNat < 2147483648 := Nat.lt_of_lt_of_le (Bool.toNat_lt _) (by decide)
theorem xmax_sub {p n : Nat} (hp : p < 1073741824) (hn : n < 1073741824) : (if nI 0 < nI p - nI n then nI p - nI n else nI 0) = nI (p - n) := by
  have e := pk_sub_toInt (a := p) (b := n) hp hn
  by_cases h : n < p
  · rw [xn_sub (by omega), if_pos ((xn_lt (by decide) (by omega)).mpr (by omega))]
  · have h0 : p - n = 0 := by omega
    rw [if_neg, h0]
    rw [Int32.lt_iff_toInt_lt, e, xn_toInt (by decide)]
    omega
theorem xmax_n {a b : Nat} (ha : a < 2147483648) (hb : b < 2147483648) : (if nI a < nI b then nI b else nI a) = nI (if a < b then b else a) := by
  by_cases h : a < b
  · rw [if_pos h, if_pos ((xn_lt ha hb).mpr h)]
  · rw [if_neg h, if_neg (fun z => h ((xn_lt ha hb).mp z))]
theorem xup_rn {V : xV} {a j d : Nat} {v : Int32} (h : ¬ d = a) : xup V a j v d = V d := by funext i; exact xup_ne (fun z => h z.1)
section KCX
variable {E : Nat × Nat × Nat} {S : xSh} {V V' W : xV} {Q : Option Value → xSh → xV → Prop} {b c : Nat} {σ : Nat → Nat}
theorem cOut_r : cOut V V b := fun _ _ => rfl
theorem cOut_t (h1 : cOut V V' b) (h2 : cOut V' W b) : cOut V W b := fun a ha => (h2 a ha).trans (h1 a ha)
theorem cOut_row {a : Nat} {f : Nat → Int32} (h : b ≤ a ∧ a ≤ b + 4) : cOut V (xrow V a f) b := fun d hd => xrow_ne (by omega)
theorem cOut_up {a j : Nat} {v : Int32} (h : b ≤ a ∧ a ≤ b + 4) : cOut V (xup V a j v) b := fun d hd => by funext i; exact xup_ne (by omega)
theorem s_has {s m : Nat} (hs : s < 2147483648) (hm : m < 32) : xC E mX4_has [.int (nI s), .int (nI m)] S V Q ↔ Q (some (.int (nI (s.testBit m).toNat))) S V := by
  have hb1 : (s.testBit m).toNat < 2 := Bool.toNat_lt _
  show xX E mX4_has 0 [some (.int (nI s)), some (.int (nI m))] [] S V Q ↔ _
  cases h : s.testBit m with
  | true =>
    have e : s / 2 ^ m &&& 1 = 1 := (tb_and _ _).mpr h
    simp (disch := (first | assumption | exact xnl_i _ | exact xnl_r _ | exact xnl_n | exact Bool.toNat_lt _ | exact hb _ | exact hb2 _ | omega | exact Nat.le_of_ble_eq_true rfl | rfl | decide)) only [pX4_has_0, pX4_has_1, pX4_has_2, pX4_has_3, pX4_has_4, pX4_has_5, pX4_has_8, pX4_has_9, pX4_has_12, pX4_has_13, nI_add, pk_mul, xn_sub, xn_and, xn_or, xn_xor, xn_shl, xn_shr, xn_lt, xn_le, xn_eq, xrf_some, xup_eq, xup_ne, xrow_eq, xrow_ne, Option.toList_some, Option.toList_none, List.singleton_append, List.nil_append, List.cons_append, xnl_n, xnl_i, xnl_r, Nat.zero_add, Nat.add_zero, ↓reduceIte, Nat.reduceEqDiff, Nat.reduceLeDiff, Nat.reduceAdd, Nat.reduceMul, Nat.reduceLT, Nat.one_ne_zero, eq_self, not_true_eq_false, not_false_eq_true, and_self, e]
    rfl
  | false =>
    have e : s / 2 ^ m &&& 1 = 0 := by rw [tb_and1, h]; rfl
    simp (disch := (first | assumption | exact xnl_i _ | exact xnl_r _ | exact xnl_n | exact Bool.toNat_lt _ | exact hb _ | exact hb2 _ | omega | exact Nat.le_of_ble_eq_true rfl | rfl | decide)) only [pX4_has_0, pX4_has_1, pX4_has_2, pX4_has_3, pX4_has_4, pX4_has_5, pX4_has_8, pX4_has_9, pX4_has_12, pX4_has_13, nI_add, pk_mul, xn_sub, xn_and, xn_or, xn_xor, xn_shl, xn_shr, xn_lt, xn_le, xn_eq, xrf_some, xup_eq, xup_ne, xrow_eq, xrow_ne, Option.toList_some, Option.toList_none, List.singleton_append, List.nil_append, List.cons_append, xnl_n, xnl_i, xnl_r, Nat.zero_add, Nat.add_zero, ↓reduceIte, Nat.reduceEqDiff, Nat.reduceLeDiff, Nat.reduceAdd, Nat.reduceMul, Nat.reduceLT, Nat.one_ne_zero, eq_self, not_true_eq_false, not_false_eq_true, and_self, e]
    rfl
theorem k_addToSum {n : Nat} (hS : cShape S b) (hK : kC V b σ c) (hs : σ (62 * c + 2) < 1000000) (hn : n < 1000000) : xC E mX0_addToSum [.ref b, .int (nI n)] S V Q ↔ Q none S (xup V b 7 (nI ((σ (62 * c + 2) + n) % 1000))) := by
  obtain ⟨ck0, cr0, cr1, cr2, cr3, ck1, cn1, ck2, cn2, ck3, cn3, ck4, cn4⟩ := hS
  obtain ⟨c4, c5, c6, c7, c8, c9, c10, ca, cb, cc, cd⟩ := hK
  show xX E mX0_addToSum 0 [some (.ref b), some (.int (nI n))] [] S V Q ↔ _
  simp (disch := (first | assumption | exact xnl_i _ | exact xnl_r _ | exact xnl_n | exact Bool.toNat_lt _ | exact hb _ | exact hb2 _ | omega | exact Nat.le_of_ble_eq_true rfl | rfl | decide)) only [pX0_addToSum_0, pX0_addToSum_1, pX0_addToSum_2, pX0_addToSum_5, pX0_addToSum_6, pX0_addToSum_7, pX0_addToSum_10i, pX0_addToSum_10, pX0_addToSum_11, pX0_addToSum_14, nI_add, pk_mul, xn_sub, xn_and, xn_or, xn_xor, xn_shl, xn_shr, xn_lt, xn_le, xn_eq, xrf_some, xup_eq, xup_ne, xrow_eq, xrow_ne, Option.toList_some, Option.toList_none, List.singleton_append, List.nil_append, List.cons_append, xnl_n, xnl_i, xnl_r, Nat.zero_add, Nat.add_zero, ↓reduceIte, Nat.reduceEqDiff, Nat.reduceLeDiff, Nat.reduceAdd, Nat.reduceMul, Nat.reduceLT, Nat.one_ne_zero, eq_self, not_true_eq_false, not_false_eq_true, and_self, ck0, cr0, cr1, cr2, cr3, c7, xn_rem]
theorem k_receive {n : Nat} (hS : cShape S b) (hK : kC V b σ c) (h4 : σ (62 * c + 4) < 4) : xC E mX0_receive [.ref b, .int (nI n)] S V Q ↔ Q none S (xup (xup V (b + 3) (σ (62 * c + 4)) (nI n)) b 9 (nI (σ (62 * c + 4) + 1))) := by
  obtain ⟨ck0, cr0, cr1, cr2, cr3, ck1, cn1, ck2, cn2, ck3, cn3, ck4, cn4⟩ := hS
  obtain ⟨c4, c5, c6, c7, c8, c9, c10, ca, cb, cc, cd⟩ := hK
  have h4' : ¬ 4 ≤ σ (62 * c + 4) := by omega
  show xX E mX0_receive 0 [some (.ref b), some (.int (nI n))] [] S V Q ↔ _
  simp (disch := (first | assumption | exact xnl_i _ | exact xnl_r _ | exact xnl_n | exact Bool.toNat_lt _ | exact hb _ | exact hb2 _ | omega | exact Nat.le_of_ble_eq_true rfl | rfl | decide)) only [pX0_receive_0, pX0_receive_1, pX0_receive_4, pX0_receive_5, pX0_receive_8, pX0_receive_9, pX0_receive_12, pX0_receive_13, pX0_receive_16, pX0_receive_17, pX0_receive_18, pX0_receive_19, pX0_receive_19i, pX0_receive_20, pX0_receive_23, pX0_receive_24, pX0_receive_25, pX0_receive_28, nI_add, pk_mul, xn_sub, xn_and, xn_or, xn_xor, xn_shl, xn_shr, xn_lt, xn_le, xn_eq, xrf_some, xup_eq, xup_ne, xrow_eq, xrow_ne, Option.toList_some, Option.toList_none, List.singleton_append, List.nil_append, List.cons_append, xnl_n, xnl_i, xnl_r, Nat.zero_add, Nat.add_zero, ↓reduceIte, Nat.reduceEqDiff, Nat.reduceLeDiff, Nat.reduceAdd, Nat.reduceMul, Nat.reduceLT, Nat.one_ne_zero, eq_self, not_true_eq_false, not_false_eq_true, and_self, ck0, cr0, cr1, cr2, cr3, c9, h4']
theorem kC_recv {n : Nat} (hK : kC V b σ c) (h4 : σ (62 * c + 4) < 4) : kC (xup (xup V (b + 3) (σ (62 * c + 4)) (nI n)) b 9 (nI (σ (62 * c + 4) + 1))) b (precv σ c n) c := by
  obtain ⟨c4, c5, c6, c7, c8, c9, c10, ca, cb, cc, cd⟩ := hK
  have e : ∀ j, ¬ j = 62 * c + 4 → ¬ j = 62 * c + (5 + σ (62 * c + 4)) → precv σ c n j = σ j := fun j h1 h2 => by unfold precv; rw [su_ne h1, su_ne h2]
  have e4 : precv σ c n (62 * c + 4) = σ (62 * c + 4) + 1 := su_eq
  have e5 : precv σ c n (62 * c + (5 + σ (62 * c + 4))) = n := by unfold precv; rw [su_ne (by omega), su_eq]
  have em : kmk (precv σ c n) c = kmk σ c := bm_congr (fun p hp => by rw [e _ (by omega) (by omega), e _ (by omega) (by omega)])
  refine ⟨?_, ?_, ?_, ?_, ?_, ?_, ?_, fun p hp => ?_, fun p hp => ?_, fun j hj => ?_, fun j hj => ?_⟩
  · rw [xup_ne (by omega), xup_ne (by omega), e _ (by omega) (by omega)]; exact c4
  · rw [xup_ne (by omega), xup_ne (by omega), em]; exact c5
  · rw [xup_ne (by omega), xup_ne (by omega), e _ (by omega) (by omega)]; exact c6
  · rw [xup_ne (by omega), xup_ne (by omega), e _ (by omega) (by omega)]; exact c7
  · rw [xup_ne (by omega), xup_ne (by omega), e _ (by omega) (by omega)]; exact c8
  · rw [xup_eq, e4]
  · rw [xup_ne (by omega), xup_ne (by omega), e _ (by omega) (by omega)]; exact c10
  · rw [e _ (by omega) (by omega)] at hp
    rw [xup_ne (by omega), xup_ne (by omega), ca p hp]
    exact congrArg nI (e (62 * c + (14 + 3 * p)) (by omega) (by omega)).symm
  · rw [e _ (by omega) (by omega)] at hp
    rw [xup_ne (by omega), xup_ne (by omega), cb p hp]
    exact congrArg nI (e (62 * c + (14 + 3 * p + 1)) (by omega) (by omega)).symm
  · rw [e4] at hj
    rw [xup_ne (by omega)]
    by_cases hjr : j = σ (62 * c + 4)
    · subst hjr; rw [xup_eq, e5]
    · rw [xup_ne (by omega), e _ (by omega) (by omega)]; exact cc j (by omega)
  · rw [xup_ne (by omega), xup_ne (by omega), e _ (by omega) (by omega)]; exact cd j hj
/-- one of a context's plain numbers -/
theorem kC_plain {j w v : Nat} (hK : kC V b σ c) (hj : (j = 6 ∧ w = 1) ∨ (j = 7 ∧ w = 2) ∨ (j = 8 ∧ w = 3) ∨ (j = 10 ∧ w = 9)) (h4 : σ (62 * c + 4) ≤ 4) : kC (xup V b j (nI v)) b (su σ (62 * c + w) v) c := by
  obtain ⟨c4, c5, c6, c7, c8, c9, c10, ca, cb, cc, cd⟩ := hK
  have e : ∀ i, ¬ i = 62 * c + w → su σ (62 * c + w) v i = σ i := fun i h => su_ne h
  have em : kmk (su σ (62 * c + w) v) c = kmk σ c := bm_congr (fun p hp => by rw [e _ (by omega), e _ (by omega)])
  refine ⟨?_, ?_, ?_, ?_, ?_, ?_, ?_, fun p hp => ?_, fun p hp => ?_, fun i hi => ?_, fun i hi => ?_⟩
  · rw [xup_ne (by omega), e _ (by omega)]; exact c4
  · rw [xup_ne (by omega), em]; exact c5
  · by_cases h : j = 6
    · have : w = 1 := by omega
      subst h; subst this; rw [xup_eq, su_eq]
    · rw [xup_ne (by omega), e _ (by omega)]; exact c6
  · by_cases h : j = 7
    · have : w = 2 := by omega
      subst h; subst this; rw [xup_eq, su_eq]
    · rw [xup_ne (by omega), e _ (by omega)]; exact c7
  · by_cases h : j = 8
    · have : w = 3 := by omega
      subst h; subst this; rw [xup_eq, su_eq]
    · rw [xup_ne (by omega), e _ (by omega)]; exact c8
  · rw [xup_ne (by omega), e _ (by omega)]; exact c9
  · by_cases h : j = 10
    · have : w = 9 := by omega
      subst h; subst this; rw [xup_eq, su_eq]
    · rw [xup_ne (by omega), e _ (by omega)]; exact c10
  · rw [e _ (by omega)] at hp
    rw [xup_ne (by omega), ca p hp]
    exact congrArg nI (e (62 * c + (14 + 3 * p)) (by omega)).symm
  · rw [e _ (by omega)] at hp
    rw [xup_ne (by omega), cb p hp]
    exact congrArg nI (e (62 * c + (14 + 3 * p + 1)) (by omega)).symm
  · have hw4 : su σ (62 * c + w) v (62 * c + 4) = σ (62 * c + 4) := e _ (by omega)
    rw [hw4] at hi
    rw [xup_ne (by omega), e _ (by omega)]; exact cc i hi
  · rw [xup_ne (by omega), e _ (by omega)]; exact cd i hi
theorem kC_acct {q v : Nat} (hK : kC V b σ c) (hq : q < 4) (h4 : σ (62 * c + 4) ≤ 4) : kC (xup V (b + 4) q (nI v)) b (su σ (62 * c + (10 + q)) v) c := by
  obtain ⟨c4, c5, c6, c7, c8, c9, c10, ca, cb, cc, cd⟩ := hK
  have e : ∀ i, ¬ i = 62 * c + (10 + q) → su σ (62 * c + (10 + q)) v i = σ i := fun i h => su_ne h
  have em : kmk (su σ (62 * c + (10 + q)) v) c = kmk σ c := bm_congr (fun p hp => by rw [e _ (by omega), e _ (by omega)])
  refine ⟨?_, ?_, ?_, ?_, ?_, ?_, ?_, fun p hp => ?_, fun p hp => ?_, fun i hi => ?_, fun i hi => ?_⟩
  · rw [xup_ne (by omega), e _ (by omega)]; exact c4
  · rw [xup_ne (by omega), em]; exact c5
  · rw [xup_ne (by omega), e _ (by omega)]; exact c6
  · rw [xup_ne (by omega), e _ (by omega)]; exact c7
  · rw [xup_ne (by omega), e _ (by omega)]; exact c8
  · rw [xup_ne (by omega), e _ (by omega)]; exact c9
  · rw [xup_ne (by omega), e _ (by omega)]; exact c10
  · rw [e _ (by omega)] at hp
    rw [xup_ne (by omega), ca p hp]
    exact congrArg nI (e (62 * c + (14 + 3 * p)) (by omega)).symm
  · rw [e _ (by omega)] at hp
    rw [xup_ne (by omega), cb p hp]
    exact congrArg nI (e (62 * c + (14 + 3 * p + 1)) (by omega)).symm
  · rw [e _ (by omega)] at hi
    rw [xup_ne (by omega), e _ (by omega)]; exact cc i hi
  · by_cases h : i = q
    · subst h; rw [xup_eq, su_eq]
    · rw [xup_ne (by omega), e _ (by omega)]; exact cd i hi
theorem k_takeMessage (hS : cShape S b) (hK : kC V b σ c) (h4 : σ (62 * c + 4) ≤ 4) (h0 : 0 < σ (62 * c + 4)) (hs : σ (62 * c + 2) < 1000) (hm : σ (62 * c + 5) < 1000) : ∃ V', kC V' b (ptake σ c) c ∧ cOut V V' b ∧ ∀ Q : Option Value → xSh → xV → Prop, xC E mX0_takeMessage [.ref b] S V Q ↔ Q none S V' := by
  have hadd := fun (Q : Option Value → xSh → xV → Prop) => k_addToSum (E := E) (Q := Q) (n := σ (62 * c + 5)) hS hK (by omega) (by omega)
  obtain ⟨ck0, cr0, cr1, cr2, cr3, ck1, cn1, ck2, cn2, ck3, cn3, ck4, cn4⟩ := hS
  obtain ⟨c4, c5, c6, c7, c8, c9, c10, ca, cb, cc, cd⟩ := hK
  have cc0 : V (b + 3) 0 = nI (σ (62 * c + 5)) := cc 0 h0
  have h0' : ¬ σ (62 * c + 4) ≤ 0 := by omega
  refine ⟨xrow (xup (xup V b 7 (nI ((σ (62 * c + 2) + σ (62 * c + 5)) % 1000))) b 9 (nI (σ (62 * c + 4) - 1))) (b + 3) (va_cpy (V (b + 3)) (V (b + 3)) 1 0 3), ?_, cOut_t (cOut_up (by omega)) (cOut_t (cOut_up (by omega)) (cOut_row (by omega))), fun Q => ?_⟩
  · have e : ∀ i, ¬ i = 62 * c + 2 → (i < 62 * c + 4 ∨ 62 * c + 8 < i) → ptake σ c i = σ i := fun i h1 h2 => by
      unfold ptake
      rw [su_ne (by omega), su_ne (by omega), su_ne (by omega), su_ne (by omega), su_ne (by omega), su_ne (by omega)]
    have e2 : ptake σ c (62 * c + 2) = (σ (62 * c + 2) + σ (62 * c + 5)) % 1000 := by
      unfold ptake
      rw [su_ne (by omega), su_ne (by omega), su_ne (by omega), su_ne (by omega), su_ne (by omega), su_eq]
    have e4 : ptake σ c (62 * c + 4) = σ (62 * c + 4) - 1 := su_eq
    have e5 : ∀ j, j < 3 → ptake σ c (62 * c + (5 + j)) = σ (62 * c + (5 + (j + 1))) := fun j hj => by
      unfold ptake
      have hc : j = 0 ∨ j = 1 ∨ j = 2 := by omega
      rcases hc with rfl | rfl | rfl
      · rw [su_ne (by omega), su_ne (by omega), su_ne (by omega), su_ne (by omega)]; exact su_eq
      · rw [su_ne (by omega), su_ne (by omega), su_ne (by omega)]; exact su_eq
      · rw [su_ne (by omega), su_ne (by omega)]; exact su_eq
    have em : kmk (ptake σ c) c = kmk σ c := bm_congr (fun p hp => by rw [e _ (by omega) (by omega), e _ (by omega) (by omega)])
    refine ⟨?_, ?_, ?_, ?_, ?_, ?_, ?_, fun p hp => ?_, fun p hp => ?_, fun i hi => ?_, fun i hi => ?_⟩
    · rw [xrow_ne (by omega), xup_ne (by omega), xup_ne (by omega), e _ (by omega) (by omega)]; exact c4
    · rw [xrow_ne (by omega), xup_ne (by omega), xup_ne (by omega), em]; exact c5
    · rw [xrow_ne (by omega), xup_ne (by omega), xup_ne (by omega), e _ (by omega) (by omega)]; exact c6
    · rw [xrow_ne (by omega), xup_ne (by omega), xup_eq, e2]
    · rw [xrow_ne (by omega), xup_ne (by omega), xup_ne (by omega), e _ (by omega) (by omega)]; exact c8
    · rw [xrow_ne (by omega), xup_eq, e4]
    · rw [xrow_ne (by omega), xup_ne (by omega), xup_ne (by omega), e _ (by omega) (by omega)]; exact c10
    · rw [e _ (by omega) (by omega)] at hp
      rw [xrow_ne (by omega), xup_ne (by omega), xup_ne (by omega), ca p hp]
      exact congrArg nI (e (62 * c + (14 + 3 * p)) (by omega) (by omega)).symm
    · rw [e _ (by omega) (by omega)] at hp
      rw [xrow_ne (by omega), xup_ne (by omega), xup_ne (by omega), cb p hp]
      exact congrArg nI (e (62 * c + (14 + 3 * p + 1)) (by omega) (by omega)).symm
    · rw [e4] at hi
      rw [xrow_eq, pk_cpy_in (by omega) (by omega), e5 i (by omega), show 1 + (i - 0) = i + 1 by omega]
      exact cc (i + 1) (by omega)
    · rw [xrow_ne (by omega), xup_ne (by omega), xup_ne (by omega), e _ (by omega) (by omega)]; exact cd i hi
  · show xX E mX0_takeMessage 0 [some (.ref b)] [] S V Q ↔ _
    simp (disch := (first | assumption | exact xnl_i _ | exact xnl_r _ | exact xnl_n | exact Bool.toNat_lt _ | exact hb _ | exact hb2 _ | omega | exact Nat.le_of_ble_eq_true rfl | rfl | decide)) only [pX0_takeMessage_0, pX0_takeMessage_1, pX0_takeMessage_4, pX0_takeMessage_7, pX0_takeMessage_8, pX0_takeMessage_9, pX0_takeMessage_12, pX0_takeMessage_13, pX0_takeMessage_14, pX0_takeMessage_17, pX0_takeMessage_18, pX0_takeMessage_18i, pX0_takeMessage_19, pX0_takeMessage_22, pX0_takeMessage_23, pX0_takeMessage_24, pX0_takeMessage_27, pX0_takeMessage_28, pX0_takeMessage_31, pX0_takeMessage_32, pX0_takeMessage_33, pX0_takeMessage_36, pX0_takeMessage_37, pX0_takeMessage_38, pX0_takeMessage_41, nI_add, pk_mul, xn_sub, xn_and, xn_or, xn_xor, xn_shl, xn_shr, xn_lt, xn_le, xn_eq, xrf_some, xup_eq, xup_ne, xrow_eq, xrow_ne, Option.toList_some, Option.toList_none, List.singleton_append, List.nil_append, List.cons_append, xnl_n, xnl_i, xnl_r, Nat.zero_add, Nat.add_zero, ↓reduceIte, Nat.reduceEqDiff, Nat.reduceLeDiff, Nat.reduceAdd, Nat.reduceMul, Nat.reduceLT, Nat.one_ne_zero, eq_self, not_true_eq_false, not_false_eq_true, and_self, ck0, cr0, cr1, cr2, cr3, c9, h0', cc0, hadd, xup_rn]
theorem k_goBack {n : Nat} (hS : cShape S b) (hK : kC V b σ c) (h4 : σ (62 * c + 4) ≤ 4) (hpl : σ (62 * c + 1) < σ (62 * c)) (hcm : σ (62 * c) ≤ 16) (hmk : σ (62 * c + (14 + 3 * σ (62 * c + 1) + 2)) ≤ 1) (hn : n < 100000) : ∃ V', kC V' b (pback σ c n) c ∧ cOut V V' b ∧ ∀ Q : Option Value → xSh → xV → Prop, xC E mX0_goBack [.ref b, .int (nI n)] S V Q ↔ Q none S V' := by
  obtain ⟨ck0, cr0, cr1, cr2, cr3, ck1, cn1, ck2, cn2, ck3, cn3, ck4, cn4⟩ := hS
  obtain ⟨c4, c5, c6, c7, c8, c9, c10, ca, cb, cc, cd⟩ := hK
  have hkb := kmk_bit σ c (σ (62 * c + 1))
  have hp16 : σ (62 * c + 1) < 16 := by omega
  have h231 : 1 * 2 ^ σ (62 * c + 1) < 4294967296 := by
    have : 2 ^ σ (62 * c + 1) ≤ 2 ^ 16 := Nat.pow_le_pow_right (by decide) (by omega)
    omega
  have hk2 : kmk σ c < 2147483648 := Nat.lt_trans (kmk_lt σ c) (by decide)
  have hhas := fun (Q : Option Value → xSh → xV → Prop) => s_has (E := E) (S := S) (V := V) (Q := Q) (m := σ (62 * c + 1)) hk2 (by omega)
  have hpb : σ (62 * c + 1) < 1073741824 := by omega
  have hnb : n < 1073741824 := by omega
  -- the new place and mark, in one
  obtain ⟨p', m', hp', hm'⟩ : ∃ p' m', (p' = if σ (62 * c + (14 + 3 * σ (62 * c + 1) + 2)) = 1 then σ (62 * c + 1) + 1 else σ (62 * c + 1) - n) ∧ (m' = if σ (62 * c + (14 + 3 * σ (62 * c + 1) + 2)) = 1 then 0 else 1) := ⟨_, _, rfl, rfl⟩
  have hpb2 : pback σ c n = su (su σ (62 * c + (14 + 3 * σ (62 * c + 1) + 2)) m') (62 * c + 1) p' := by
    unfold pback
    by_cases h : σ (62 * c + (14 + 3 * σ (62 * c + 1) + 2)) = 1
    · rw [if_pos h, hp', hm', if_pos h, if_pos h]
    · rw [if_neg h, hp', hm', if_neg h, if_neg h]
  refine ⟨xup (xup V b 5 (nI (kmk σ c ^^^ 2 ^ σ (62 * c + 1)))) b 6 (nI p'), ?_, cOut_t (cOut_up (by omega)) (cOut_up (by omega)), fun Q => ?_⟩
  · rw [hpb2]
    have e : ∀ i, ¬ i = 62 * c + 1 → ¬ i = 62 * c + (14 + 3 * σ (62 * c + 1) + 2) → su (su σ (62 * c + (14 + 3 * σ (62 * c + 1) + 2)) m') (62 * c + 1) p' i = σ i := fun i h1 h2 => by rw [su_ne h1, su_ne h2]
    have e1 : su (su σ (62 * c + (14 + 3 * σ (62 * c + 1) + 2)) m') (62 * c + 1) p' (62 * c + 1) = p' := su_eq
    have em1 : su (su σ (62 * c + (14 + 3 * σ (62 * c + 1) + 2)) m') (62 * c + 1) p' (62 * c + (14 + 3 * σ (62 * c + 1) + 2)) = m' := by rw [su_ne (by omega), su_eq]
    have em : kmk (su (su σ (62 * c + (14 + 3 * σ (62 * c + 1) + 2)) m') (62 * c + 1) p') c = kmk σ c ^^^ 2 ^ σ (62 * c + 1) := by
      apply Nat.eq_of_testBit_eq
      intro i
      rw [kmk_bit, Nat.testBit_xor, kmk_bit, Nat.testBit_two_pow, e (62 * c) (by omega) (by omega)]
      by_cases hi : i = σ (62 * c + 1)
      · subst hi
        rw [em1, hm']
        by_cases h : σ (62 * c + (14 + 3 * σ (62 * c + 1) + 2)) = 1
        · rw [if_pos h, h]; simp [hp16, hpl]
        · rw [if_neg h]; simp [hp16, hpl, h]
      · have hi2 : ¬ σ (62 * c + 1) = i := fun z => hi z.symm
        by_cases h16 : i < 16
        · rw [e _ (by omega) (by omega)]; simp [hi2]
        · simp [h16, hi2]
    refine ⟨?_, ?_, ?_, ?_, ?_, ?_, ?_, fun p hp => ?_, fun p hp => ?_, fun i hi => ?_, fun i hi => ?_⟩
    · rw [xup_ne (by omega), xup_ne (by omega), e _ (by omega) (by omega)]; exact c4
    · rw [xup_ne (by omega), xup_eq, em]
    · rw [xup_eq, e1]
    · rw [xup_ne (by omega), xup_ne (by omega), e _ (by omega) (by omega)]; exact c7
    · rw [xup_ne (by omega), xup_ne (by omega), e _ (by omega) (by omega)]; exact c8
    · rw [xup_ne (by omega), xup_ne (by omega), e _ (by omega) (by omega)]; exact c9
    · rw [xup_ne (by omega), xup_ne (by omega), e _ (by omega) (by omega)]; exact c10
    · rw [e _ (by omega) (by omega)] at hp
      rw [xup_ne (by omega), xup_ne (by omega), ca p hp]
      exact congrArg nI (e (62 * c + (14 + 3 * p)) (by omega) (by omega)).symm
    · rw [e _ (by omega) (by omega)] at hp
      rw [xup_ne (by omega), xup_ne (by omega), cb p hp]
      exact congrArg nI (e (62 * c + (14 + 3 * p + 1)) (by omega) (by omega)).symm
    · rw [e _ (by omega) (by omega)] at hi
      rw [xup_ne (by omega), xup_ne (by omega), e _ (by omega) (by omega)]; exact cc i hi
    · rw [xup_ne (by omega), xup_ne (by omega), e _ (by omega) (by omega)]; exact cd i hi
  · show xX E mX0_goBack 0 [some (.ref b), some (.int (nI n)), none] [] S V Q ↔ _
    by_cases h : σ (62 * c + (14 + 3 * σ (62 * c + 1) + 2)) = 1
    · have hbt : (kmk σ c).testBit (σ (62 * c + 1)) = true := by rw [hkb]; simp [hp16, hpl, h]
      rw [hp', if_pos h]
      simp (disch := (first | assumption | exact xnl_i _ | exact xnl_r _ | exact xnl_n | exact Bool.toNat_lt _ | exact hb _ | exact hb2 _ | omega | exact Nat.le_of_ble_eq_true rfl | rfl | decide)) only [pX0_goBack_0, pX0_goBack_1, pX0_goBack_4, pX0_goBack_5, pX0_goBack_8, pX0_goBack_11, pX0_goBack_12, pX0_goBack_13, pX0_goBack_13i, pX0_goBack_14, pX0_goBack_17, pX0_goBack_18, pX0_goBack_19, pX0_goBack_22, pX0_goBack_23, pX0_goBack_24, pX0_goBack_27, pX0_goBack_28, pX0_goBack_29, pX0_goBack_32, pX0_goBack_33, pX0_goBack_36, pX0_goBack_37, pX0_goBack_38, pX0_goBack_41, pX0_goBack_42, pX0_goBack_43, pX0_goBack_46, pX0_goBack_47, pX0_goBack_48, pX0_goBack_51, pX0_goBack_54, nI_add, pk_mul, xn_sub, xn_and, xn_or, xn_xor, xn_shl, xn_shr, xn_lt, xn_le, xn_eq, xrf_some, xup_eq, xup_ne, xrow_eq, xrow_ne, Option.toList_some, Option.toList_none, List.singleton_append, List.nil_append, List.cons_append, xnl_n, xnl_i, xnl_r, Nat.zero_add, Nat.add_zero, ↓reduceIte, Nat.reduceEqDiff, Nat.reduceLeDiff, Nat.reduceAdd, Nat.reduceMul, Nat.reduceLT, Nat.one_ne_zero, eq_self, not_true_eq_false, not_false_eq_true, and_self, ck0, cr0, cr1, cr2, cr3, c5, c6, hhas, hbt, Bool.toNat_true, Nat.one_mul]
    · have hbt : (kmk σ c).testBit (σ (62 * c + 1)) = false := by rw [hkb]; simp [h]
      rw [hp', if_neg h]
      simp (disch := (first | assumption | exact xnl_i _ | exact xnl_r _ | exact xnl_n | exact Bool.toNat_lt _ | exact hb _ | exact hb2 _ | omega | exact Nat.le_of_ble_eq_true rfl | rfl | decide)) only [pX0_goBack_0, pX0_goBack_1, pX0_goBack_4, pX0_goBack_5, pX0_goBack_8, pX0_goBack_11, pX0_goBack_12, pX0_goBack_13, pX0_goBack_13i, pX0_goBack_14, pX0_goBack_17, pX0_goBack_18, pX0_goBack_19, pX0_goBack_22, pX0_goBack_23, pX0_goBack_24, pX0_goBack_27, pX0_goBack_28, pX0_goBack_29, pX0_goBack_32, pX0_goBack_33, pX0_goBack_36, pX0_goBack_37, pX0_goBack_38, pX0_goBack_41, pX0_goBack_42, pX0_goBack_43, pX0_goBack_46, pX0_goBack_47, pX0_goBack_48, pX0_goBack_51, pX0_goBack_54, nI_add, pk_mul, xn_and, xn_or, xn_xor, xn_shl, xn_shr, xn_lt, xn_le, xn_eq, xrf_some, xup_eq, xup_ne, xrow_eq, xrow_ne, Option.toList_some, Option.toList_none, List.singleton_append, List.nil_append, List.cons_append, xnl_n, xnl_i, xnl_r, Nat.zero_add, Nat.add_zero, ↓reduceIte, Nat.reduceEqDiff, Nat.reduceLeDiff, Nat.reduceAdd, Nat.reduceMul, Nat.reduceLT, Nat.one_ne_zero, eq_self, not_true_eq_false, not_false_eq_true, and_self, ck0, cr0, cr1, cr2, cr3, c5, c6, hhas, hbt, Bool.toNat_false, Nat.one_mul, xmax_sub]
end KCX

