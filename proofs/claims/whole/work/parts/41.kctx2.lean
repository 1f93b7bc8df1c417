/-! ===== the class: a context copied, added to, loaded ===== -/
theorem ploadN_s {σ : Nat → Nat} {c m : Nat} {f : Nat → Nat × Nat} : ploadN σ c f (m + 1) = su (su (su (su (ploadN σ c f m) (62 * c + (14 + 3 * m)) (f m).1) (62 * c + (14 + 3 * m + 1)) (f m).2) (62 * c + (14 + 3 * m + 2)) 0) (62 * c) (m + 1) := by
  have e : ploadN σ c f (m + 1) = pappend (ploadN σ c f m) c (f m).1 (f m).2 := rfl
  rw [e]
  unfold pappend
  rw [ploadN_0]
theorem ploadN_o {σ : Nat → Nat} {c i : Nat} {f : Nat → Nat × Nat} : ∀ m, m ≤ 16 → ¬ i = 62 * c → ¬ (62 * c + 14 ≤ i ∧ i < 62 * c + 62) → ploadN σ c f m i = pclear σ c i := by
  intro m
  induction m with
  | zero => intro _ _ _; rfl
  | succ m ih =>
    intro hm h0 h1
    rw [ploadN_s, su_ne (by omega), su_ne (by omega), su_ne (by omega), su_ne (by omega)]
    exact ih (by omega) h0 h1
theorem ploadN_p {σ : Nat → Nat} {c p : Nat} {f : Nat → Nat × Nat} : ∀ m, p < m → ploadN σ c f m (62 * c + (14 + 3 * p)) = (f p).1 ∧ ploadN σ c f m (62 * c + (14 + 3 * p + 1)) = (f p).2 ∧ ploadN σ c f m (62 * c + (14 + 3 * p + 2)) = 0 := by
  intro m
  induction m with
  | zero => intro h; omega
  | succ m ih =>
    intro h
    rw [ploadN_s]
    by_cases hp : p = m
    · subst hp
      refine ⟨?_, ?_, ?_⟩
      · rw [su_ne (by omega), su_ne (by omega), su_ne (by omega), su_eq]
      · rw [su_ne (by omega), su_ne (by omega), su_eq]
      · rw [su_ne (by omega), su_eq]
    · obtain ⟨i1, i2, i3⟩ := ih (by omega)
      refine ⟨?_, ?_, ?_⟩
      · rw [su_ne (by omega), su_ne (by omega), su_ne (by omega), su_ne (by omega)]; exact i1
      · rw [su_ne (by omega), su_ne (by omega), su_ne (by omega), su_ne (by omega)]; exact i2
      · rw [su_ne (by omega), su_ne (by omega), su_ne (by omega), su_ne (by omega)]; exact i3
section KC2
variable {E : Nat × Nat × Nat} {S : xSh} {V V' W : xV} {Q : Option Value → xSh → xV → Prop} {b c d : Nat} {σ : Nat → Nat}
theorem xrow_rn {V : xV} {a e : Nat} {f : Nat → Int32} (h : ¬ e = a) : xrow V a f e = V e := xrow_ne h
theorem k_copyC (hS : cShape S b) (hS2 : cShape S d) (hK : kC V d σ c) (hd : b + 4 < d ∨ d + 4 < b) (hcm : σ (62 * c) ≤ 16) (h4 : σ (62 * c + 4) ≤ 4) : ∃ V', kC V' b σ c ∧ cOut V V' b ∧ ∀ Q : Option Value → xSh → xV → Prop, xC E mX0_copyFrom [.ref b, .ref d] S V Q ↔ Q none S V' := by
  obtain ⟨ck0, cr0, cr1, cr2, cr3, ck1, cn1, ck2, cn2, ck3, cn3, ck4, cn4⟩ := hS
  obtain ⟨dk0, dr0, dr1, dr2, dr3, dk1, dn1, dk2, dn2, dk3, dn3, dk4, dn4⟩ := hS2
  obtain ⟨c4, c5, c6, c7, c8, c9, c10, ca, cb, cc, cd⟩ := hK
  refine ⟨xup (xup (xup (xup (xup (xup (xup (xrow (xrow (xrow (xrow V (b + 1) (va_cpy (V (d + 1)) (V (b + 1)) 0 0 16)) (b + 2) (va_cpy (V (d + 2)) (V (b + 2)) 0 0 16)) (b + 3) (va_cpy (V (d + 3)) (V (b + 3)) 0 0 4)) (b + 4) (va_cpy (V (d + 4)) (V (b + 4)) 0 0 4)) b 4 (nI (σ (62 * c)))) b 5 (nI (kmk σ c))) b 6 (nI (σ (62 * c + 1)))) b 7 (nI (σ (62 * c + 2)))) b 8 (nI (σ (62 * c + 3)))) b 9 (nI (σ (62 * c + 4)))) b 10 (nI (σ (62 * c + 9))), ?_, ?_, fun Q => ?_⟩
  · refine ⟨?_, ?_, ?_, ?_, ?_, ?_, ?_, fun p hp => ?_, fun p hp => ?_, fun i hi => ?_, fun i hi => ?_⟩
    · rw [xup_ne (by omega), xup_ne (by omega), xup_ne (by omega), xup_ne (by omega), xup_ne (by omega), xup_ne (by omega), xup_eq]
    · rw [xup_ne (by omega), xup_ne (by omega), xup_ne (by omega), xup_ne (by omega), xup_ne (by omega), xup_eq]
    · rw [xup_ne (by omega), xup_ne (by omega), xup_ne (by omega), xup_ne (by omega), xup_eq]
    · rw [xup_ne (by omega), xup_ne (by omega), xup_ne (by omega), xup_eq]
    · rw [xup_ne (by omega), xup_ne (by omega), xup_eq]
    · rw [xup_ne (by omega), xup_eq]
    · rw [xup_eq]
    · rw [xup_ne (by omega), xup_ne (by omega), xup_ne (by omega), xup_ne (by omega), xup_ne (by omega), xup_ne (by omega), xup_ne (by omega), xrow_ne (by omega), xrow_ne (by omega), xrow_ne (by omega), xrow_eq, pk_cpy_in (by omega) (by omega), show 0 + (p - 0) = p by omega]
      exact ca p hp
    · rw [xup_ne (by omega), xup_ne (by omega), xup_ne (by omega), xup_ne (by omega), xup_ne (by omega), xup_ne (by omega), xup_ne (by omega), xrow_ne (by omega), xrow_ne (by omega), xrow_eq, pk_cpy_in (by omega) (by omega), show 0 + (p - 0) = p by omega]
      exact cb p hp
    · rw [xup_ne (by omega), xup_ne (by omega), xup_ne (by omega), xup_ne (by omega), xup_ne (by omega), xup_ne (by omega), xup_ne (by omega), xrow_ne (by omega), xrow_eq, pk_cpy_in (by omega) (by omega), show 0 + (i - 0) = i by omega]
      exact cc i hi
    · rw [xup_ne (by omega), xup_ne (by omega), xup_ne (by omega), xup_ne (by omega), xup_ne (by omega), xup_ne (by omega), xup_ne (by omega), xrow_eq, pk_cpy_in (by omega) (by omega), show 0 + (i - 0) = i by omega]
      exact cd i hi
  · exact cOut_t (cOut_row (by omega)) (cOut_t (cOut_row (by omega)) (cOut_t (cOut_row (by omega)) (cOut_t (cOut_row (by omega)) (cOut_t (cOut_up (by omega)) (cOut_t (cOut_up (by omega)) (cOut_t (cOut_up (by omega)) (cOut_t (cOut_up (by omega)) (cOut_t (cOut_up (by omega)) (cOut_t (cOut_up (by omega)) (cOut_up (by omega)))))))))))
  · show xX E mX0_copyFrom 0 [some (.ref b), some (.ref d)] [] S V Q ↔ _
    simp (disch := (first | assumption | exact xnl_i _ | exact xnl_r _ | exact xnl_n | exact Bool.toNat_lt _ | exact hb _ | exact hb2 _ | omega | exact Nat.le_of_ble_eq_true rfl | rfl | decide)) only [pX0_copyFrom_0, pX0_copyFrom_1, pX0_copyFrom_4, pX0_copyFrom_5, pX0_copyFrom_6, pX0_copyFrom_9, pX0_copyFrom_10, pX0_copyFrom_12, pX0_copyFrom_15, pX0_copyFrom_16, pX0_copyFrom_19, pX0_copyFrom_20, pX0_copyFrom_21, pX0_copyFrom_24, pX0_copyFrom_25, pX0_copyFrom_27, pX0_copyFrom_30, pX0_copyFrom_31, pX0_copyFrom_34, pX0_copyFrom_35, pX0_copyFrom_36, pX0_copyFrom_39, pX0_copyFrom_40, pX0_copyFrom_41, pX0_copyFrom_44, pX0_copyFrom_45, pX0_copyFrom_48, pX0_copyFrom_49, pX0_copyFrom_50, pX0_copyFrom_53, pX0_copyFrom_54, pX0_copyFrom_55, pX0_copyFrom_58, pX0_copyFrom_59, pX0_copyFrom_60, pX0_copyFrom_63, pX0_copyFrom_66, pX0_copyFrom_67, pX0_copyFrom_68, pX0_copyFrom_71, pX0_copyFrom_74, pX0_copyFrom_75, pX0_copyFrom_76, pX0_copyFrom_79, pX0_copyFrom_82, pX0_copyFrom_83, pX0_copyFrom_84, pX0_copyFrom_87, pX0_copyFrom_90, pX0_copyFrom_91, pX0_copyFrom_92, pX0_copyFrom_95, pX0_copyFrom_98, pX0_copyFrom_99, pX0_copyFrom_100, pX0_copyFrom_103, pX0_copyFrom_106, pX0_copyFrom_107, pX0_copyFrom_108, pX0_copyFrom_111, pX0_copyFrom_114, nI_add, pk_mul, xn_sub, xn_and, xn_or, xn_xor, xn_shl, xn_shr, xn_lt, xn_le, xn_eq, xrf_some, xup_eq, xup_ne, xrow_eq, xrow_ne, Option.toList_some, Option.toList_none, List.singleton_append, List.nil_append, List.cons_append, xnl_n, xnl_i, xnl_r, Nat.zero_add, Nat.add_zero, ↓reduceIte, Nat.reduceEqDiff, Nat.reduceLeDiff, Nat.reduceAdd, Nat.reduceMul, Nat.reduceLT, Nat.one_ne_zero, eq_self, not_true_eq_false, not_false_eq_true, and_self, ck0, cr0, cr1, cr2, cr3, dk0, dr0, dr1, dr2, dr3, xrow_rn, c4, c5, c6, c7, c8, c9, c10]
theorem k_appendV {q k n : Nat} (hS : cShape S b) (hq : V b 4 = nI q) (h : q < 16) : xC E mX0_append [.ref b, .int (nI k), .int (nI n)] S V Q ↔ Q none S (xup (xup (xup V (b + 1) q (nI k)) (b + 2) q (nI n)) b 4 (nI (q + 1))) := by
  obtain ⟨ck0, cr0, cr1, cr2, cr3, ck1, cn1, ck2, cn2, ck3, cn3, ck4, cn4⟩ := hS
  have h' : ¬ 16 ≤ q := by omega
  show xX E mX0_append 0 [some (.ref b), some (.int (nI k)), some (.int (nI n))] [] S V Q ↔ _
  simp (disch := (first | assumption | exact xnl_i _ | exact xnl_r _ | exact xnl_n | exact Bool.toNat_lt _ | exact hb _ | exact hb2 _ | omega | exact Nat.le_of_ble_eq_true rfl | rfl | decide)) only [pX0_append_0, pX0_append_1, pX0_append_4, pX0_append_6, pX0_append_9, pX0_append_10, pX0_append_13, pX0_append_14, pX0_append_17, pX0_append_18, pX0_append_19, pX0_append_20, pX0_append_23, pX0_append_24, pX0_append_27, pX0_append_28, pX0_append_29, pX0_append_30, pX0_append_30i, pX0_append_31, pX0_append_34, pX0_append_35, pX0_append_36, pX0_append_39, nI_add, pk_mul, xn_sub, xn_and, xn_or, xn_xor, xn_shl, xn_shr, xn_lt, xn_le, xn_eq, xrf_some, xup_eq, xup_ne, xrow_eq, xrow_ne, Option.toList_some, Option.toList_none, List.singleton_append, List.nil_append, List.cons_append, xnl_n, xnl_i, xnl_r, Nat.zero_add, Nat.add_zero, ↓reduceIte, Nat.reduceEqDiff, Nat.reduceLeDiff, Nat.reduceAdd, Nat.reduceMul, Nat.reduceLT, Nat.one_ne_zero, eq_self, not_true_eq_false, not_false_eq_true, and_self, ck0, cr0, cr1, cr2, cr3, hq, h']
theorem kC_append {k n : Nat} (hK : kC V b σ c) (hcm : σ (62 * c) < 16) (h4 : σ (62 * c + 4) ≤ 4) : kC (xup (xup (xup V (b + 1) (σ (62 * c)) (nI k)) (b + 2) (σ (62 * c)) (nI n)) b 4 (nI (σ (62 * c) + 1))) b (pappend σ c k n) c := by
  obtain ⟨c4, c5, c6, c7, c8, c9, c10, ca, cb, cc, cd⟩ := hK
  have e : ∀ i, ¬ i = 62 * c → (i < 62 * c + (14 + 3 * σ (62 * c)) ∨ 62 * c + (14 + 3 * σ (62 * c) + 2) < i) → pappend σ c k n i = σ i := fun i h1 h2 => by
    unfold pappend; rw [su_ne (by omega), su_ne (by omega), su_ne (by omega), su_ne (by omega)]
  have e0 : pappend σ c k n (62 * c) = σ (62 * c) + 1 := su_eq
  have ek : pappend σ c k n (62 * c + (14 + 3 * σ (62 * c))) = k := by
    unfold pappend; rw [su_ne (by omega), su_ne (by omega), su_ne (by omega), su_eq]
  have en : pappend σ c k n (62 * c + (14 + 3 * σ (62 * c) + 1)) = n := by
    unfold pappend; rw [su_ne (by omega), su_ne (by omega), su_eq]
  have em0 : pappend σ c k n (62 * c + (14 + 3 * σ (62 * c) + 2)) = 0 := by
    unfold pappend; rw [su_ne (by omega), su_eq]
  have em : kmk (pappend σ c k n) c = kmk σ c := bm_congr (fun p hp => by
    rw [e0]
    by_cases hpl : p < σ (62 * c)
    · rw [e _ (by omega) (by omega)]; simp [hpl, Nat.lt_succ_of_lt hpl]
    · by_cases hpe : p = σ (62 * c)
      · subst hpe; rw [em0]; simp
      · have h1 : ¬ p < σ (62 * c) + 1 := by omega
        simp [hpl, h1])
  refine ⟨?_, ?_, ?_, ?_, ?_, ?_, ?_, fun p hp => ?_, fun p hp => ?_, fun i hi => ?_, fun i hi => ?_⟩
  · rw [xup_eq, e0]
  · rw [xup_ne (by omega), xup_ne (by omega), xup_ne (by omega), em]; exact c5
  · rw [xup_ne (by omega), xup_ne (by omega), xup_ne (by omega), e _ (by omega) (by omega)]; exact c6
  · rw [xup_ne (by omega), xup_ne (by omega), xup_ne (by omega), e _ (by omega) (by omega)]; exact c7
  · rw [xup_ne (by omega), xup_ne (by omega), xup_ne (by omega), e _ (by omega) (by omega)]; exact c8
  · rw [xup_ne (by omega), xup_ne (by omega), xup_ne (by omega), e _ (by omega) (by omega)]; exact c9
  · rw [xup_ne (by omega), xup_ne (by omega), xup_ne (by omega), e _ (by omega) (by omega)]; exact c10
  · rw [e0] at hp
    by_cases hpe : p = σ (62 * c)
    · subst hpe
      rw [xup_ne (by omega), xup_ne (by omega), xup_eq]
      exact congrArg nI ek.symm
    · rw [xup_ne (by omega), xup_ne (by omega), xup_ne (by omega), ca p (by omega)]
      exact congrArg nI (e (62 * c + (14 + 3 * p)) (by omega) (by omega)).symm
  · rw [e0] at hp
    by_cases hpe : p = σ (62 * c)
    · subst hpe
      rw [xup_ne (by omega), xup_eq]
      exact congrArg nI en.symm
    · rw [xup_ne (by omega), xup_ne (by omega), xup_ne (by omega), cb p (by omega)]
      exact congrArg nI (e (62 * c + (14 + 3 * p + 1)) (by omega) (by omega)).symm
  · rw [e _ (by omega) (by omega)] at hi
    rw [xup_ne (by omega), xup_ne (by omega), xup_ne (by omega), e _ (by omega) (by omega)]; exact cc i hi
  · rw [xup_ne (by omega), xup_ne (by omega), xup_ne (by omega), e _ (by omega) (by omega)]; exact cd i hi
theorem k_load {p m : Nat} {f : Nat → Nat × Nat} (hS : cShape S b) (hK : kC V b σ c) (h4 : σ (62 * c + 4) ≤ 4) (hp0 : xkd S p = 4) (hp2 : xrf S p 2 = some (p + 2)) (hp3 : xrf S p 3 = some (p + 3)) (hk2 : xkd S (p + 2) = 7) (hn2 : xln S (p + 2) = 16) (hk3 : xkd S (p + 3) = 7) (hn3 : xln S (p + 3) = 16) (hpb : b + 4 < p ∨ p + 3 < b) (hm : V p 5 = nI m) (hm16 : m ≤ 16) (hcodes : ∀ i, i < m → V (p + 2) i = nI (f i).1 ∧ V (p + 3) i = nI (f i).2) : ∃ V', kC V' b (ploadN σ c f m) c ∧ cOut V V' b ∧ ∀ Q : Option Value → xSh → xV → Prop, xC E mX0_load [.ref b, .ref p] S V Q ↔ Q none S V' := by
  have hS0 := hS
  obtain ⟨ck0, cr0, cr1, cr2, cr3, ck1, cn1, ck2, cn2, ck3, cn3, ck4, cn4⟩ := hS
  obtain ⟨c4, c5, c6, c7, c8, c9, c10, ca, cb, cc, cd⟩ := hK
  -- the loop
  have loop : ∀ k i W, i + k = m → W b 4 = nI i → (∀ q, q < i → W (b + 1) q = nI (f q).1 ∧ W (b + 2) q = nI (f q).2) → cOut V W b → (∀ j, ¬ j = 4 → W b j = V b j) → W (b + 3) = V (b + 3) → W (b + 4) = V (b + 4) → ∃ W', (W' b 4 = nI m ∧ (∀ q, q < m → W' (b + 1) q = nI (f q).1 ∧ W' (b + 2) q = nI (f q).2) ∧ cOut V W' b ∧ (∀ j, ¬ j = 4 → W' b j = V b j) ∧ W' (b + 3) = V (b + 3) ∧ W' (b + 4) = V (b + 4)) ∧ ∀ Q : Option Value → xSh → xV → Prop, xX E mX0_load 7 [some (.ref b), some (.ref p), some (.int (nI i))] [] S W Q ↔ xX E mX0_load 37 [some (.ref b), some (.ref p), some (.int (nI m))] [] S W' Q := by
    intro k
    induction k with
    | zero =>
      intro i W hi h0 hc ho hj h3 h4'
      have hi : i = m := by omega
      subst hi
      have hmW : W p 5 = nI i := by rw [ho p (by omega)]; exact hm
      refine ⟨W, ⟨h0, hc, ho, hj, h3, h4'⟩, fun Q => ?_⟩
      simp (disch := (first | assumption | exact xnl_i _ | exact xnl_r _ | exact xnl_n | exact Bool.toNat_lt _ | exact hb _ | exact hb2 _ | omega | exact Nat.le_of_ble_eq_true rfl | rfl | decide)) only [pX0_load_7, pX0_load_8, pX0_load_9, pX0_load_12, nI_add, pk_mul, xn_sub, xn_and, xn_or, xn_xor, xn_shl, xn_shr, xn_lt, xn_le, xn_eq, xrf_some, xup_eq, xup_ne, xrow_eq, xrow_ne, Option.toList_some, Option.toList_none, List.singleton_append, List.nil_append, List.cons_append, xnl_n, xnl_i, xnl_r, Nat.zero_add, Nat.add_zero, ↓reduceIte, Nat.reduceEqDiff, Nat.reduceLeDiff, Nat.reduceAdd, Nat.reduceMul, Nat.reduceLT, Nat.one_ne_zero, eq_self, not_true_eq_false, not_false_eq_true, and_self, Nat.le_refl, ck0, cr0, cr1, cr2, cr3, hp0, hmW]
    | succ k ih =>
      intro i W hi h0 hc ho hj h3 h4'
      have him : ¬ m ≤ i := by omega
      have hmW : W p 5 = nI m := by rw [ho p (by omega)]; exact hm
      obtain ⟨q1, q2⟩ := hcodes i (by omega)
      have q1W : W (p + 2) i = nI (f i).1 := by rw [ho (p + 2) (by omega)]; exact q1
      have q2W : W (p + 3) i = nI (f i).2 := by rw [ho (p + 3) (by omega)]; exact q2
      have happ := fun (Q : Option Value → xSh → xV → Prop) => k_appendV (E := E) (Q := Q) (k := (f i).1) (n := (f i).2) hS0 h0 (by omega)
      obtain ⟨W', hW', hi'⟩ := ih (i + 1) (xup (xup (xup W (b + 1) i (nI (f i).1)) (b + 2) i (nI (f i).2)) b 4 (nI (i + 1))) (by omega) xup_eq (fun q hq => by
          by_cases hqi : q = i
          · subst hqi
            rw [xup_ne (by omega), xup_ne (by omega), xup_eq, xup_ne (by omega), xup_eq]
            exact ⟨rfl, rfl⟩
          · rw [xup_ne (by omega), xup_ne (by omega), xup_ne (by omega), xup_ne (by omega), xup_ne (by omega), xup_ne (by omega)]
            exact hc q (by omega)) (cOut_t ho (cOut_t (cOut_up (by omega)) (cOut_t (cOut_up (by omega)) (cOut_up (by omega))))) (fun j hj4 => by rw [xup_ne (by omega), xup_ne (by omega), xup_ne (by omega)]; exact hj j hj4) (by rw [xup_rn (by omega), xup_rn (by omega), xup_rn (by omega)]; exact h3) (by rw [xup_rn (by omega), xup_rn (by omega), xup_rn (by omega)]; exact h4')
      refine ⟨W', hW', fun Q => ?_⟩
      rw [pX0_load_7, ← hi']
      simp (disch := (first | assumption | exact xnl_i _ | exact xnl_r _ | exact xnl_n | exact Bool.toNat_lt _ | exact hb _ | exact hb2 _ | omega | exact Nat.le_of_ble_eq_true rfl | rfl | decide)) only [pX0_load_8, pX0_load_9, pX0_load_12, pX0_load_15, pX0_load_16, pX0_load_17, pX0_load_20, pX0_load_21, pX0_load_22, pX0_load_23, pX0_load_26, pX0_load_27, pX0_load_28, pX0_load_31, pX0_load_34, nI_add, pk_mul, xn_sub, xn_and, xn_or, xn_xor, xn_shl, xn_shr, xn_lt, xn_le, xn_eq, xrf_some, xup_eq, xup_ne, xrow_eq, xrow_ne, Option.toList_some, Option.toList_none, List.singleton_append, List.nil_append, List.cons_append, xnl_n, xnl_i, xnl_r, Nat.zero_add, Nat.add_zero, ↓reduceIte, Nat.reduceEqDiff, Nat.reduceLeDiff, Nat.reduceAdd, Nat.reduceMul, Nat.reduceLT, Nat.one_ne_zero, eq_self, not_true_eq_false, not_false_eq_true, and_self, ck0, cr0, cr1, cr2, cr3, hp0, hp2, hp3, hmW, him, q1W, q2W, happ]
  obtain ⟨W, ⟨w0, wc, wo, wj, w3, w4⟩, hx⟩ := loop m 0 (xup V b 4 (nI 0)) (by omega) xup_eq (fun q hq => by omega) (cOut_up (by omega)) (fun j hj => xup_ne (by omega)) (xup_rn (by omega)) (xup_rn (by omega))
  refine ⟨xup (xup (xup (xup W b 5 (nI 0)) b 6 (nI 0)) b 7 (nI 0)) b 10 (nI 0), ?_, cOut_t wo (cOut_t (cOut_up (by omega)) (cOut_t (cOut_up (by omega)) (cOut_t (cOut_up (by omega)) (cOut_up (by omega))))), fun Q => ?_⟩
  · have e0 : ploadN σ c f m (62 * c) = m := ploadN_0 m
    have eo : ∀ i, ¬ i = 62 * c → ¬ (62 * c + 14 ≤ i ∧ i < 62 * c + 62) → ploadN σ c f m i = pclear σ c i := fun i h1 h2 => ploadN_o m hm16 h1 h2
    have ez : ∀ i, (i = 62 * c + 1 ∨ i = 62 * c + 2 ∨ i = 62 * c + 9) → ploadN σ c f m i = 0 := fun i h => by rw [eo i (by omega) (by omega)]; exact if_pos (by omega)
    have es : ∀ i, ¬ i = 62 * c → ¬ (i = 62 * c + 1 ∨ i = 62 * c + 2 ∨ i = 62 * c + 9) → ¬ (62 * c + 14 ≤ i ∧ i < 62 * c + 62) → ploadN σ c f m i = σ i := fun i h1 h2 h3 => by rw [eo i h1 h3]; exact if_neg (by omega)
    have em : kmk (ploadN σ c f m) c = 0 := bm_0.mpr fun q hq => by
      rw [e0]
      by_cases hqm : q < m
      · rw [(ploadN_p m hqm).2.2]; simp
      · simp [hqm]
    refine ⟨?_, ?_, ?_, ?_, ?_, ?_, ?_, fun q hq => ?_, fun q hq => ?_, fun i hi => ?_, fun i hi => ?_⟩
    · rw [xup_ne (by omega), xup_ne (by omega), xup_ne (by omega), xup_ne (by omega), e0]; exact w0
    · rw [xup_ne (by omega), xup_ne (by omega), xup_ne (by omega), xup_eq, em]
    · rw [xup_ne (by omega), xup_ne (by omega), xup_eq, ez _ (by omega)]
    · rw [xup_ne (by omega), xup_eq, ez _ (by omega)]
    · rw [xup_ne (by omega), xup_ne (by omega), xup_ne (by omega), xup_ne (by omega), es _ (by omega) (by omega) (by omega), wj 8 (by decide)]; exact c8
    · rw [xup_ne (by omega), xup_ne (by omega), xup_ne (by omega), xup_ne (by omega), es _ (by omega) (by omega) (by omega), wj 9 (by decide)]; exact c9
    · rw [xup_eq, ez _ (by omega)]
    · rw [e0] at hq
      rw [xup_ne (by omega), xup_ne (by omega), xup_ne (by omega), xup_ne (by omega), (wc q hq).1]
      exact congrArg nI (ploadN_p m hq).1.symm
    · rw [e0] at hq
      rw [xup_ne (by omega), xup_ne (by omega), xup_ne (by omega), xup_ne (by omega), (wc q hq).2]
      exact congrArg nI (ploadN_p m hq).2.1.symm
    · rw [es _ (by omega) (by omega) (by omega)] at hi
      rw [xup_ne (by omega), xup_ne (by omega), xup_ne (by omega), xup_ne (by omega), es _ (by omega) (by omega) (by omega), w3]; exact cc i hi
    · rw [xup_ne (by omega), xup_ne (by omega), xup_ne (by omega), xup_ne (by omega), es _ (by omega) (by omega) (by omega), w4]; exact cd i hi
  · show xX E mX0_load 0 [some (.ref b), some (.ref p), none] [] S V Q ↔ _
    simp (disch := (first | assumption | exact xnl_i _ | exact xnl_r _ | exact xnl_n | exact Bool.toNat_lt _ | exact hb _ | exact hb2 _ | omega | exact Nat.le_of_ble_eq_true rfl | rfl | decide)) only [pX0_load_0, pX0_load_1, pX0_load_2, pX0_load_5, pX0_load_6, nI_add, pk_mul, xn_sub, xn_and, xn_or, xn_xor, xn_shl, xn_shr, xn_lt, xn_le, xn_eq, xrf_some, xup_eq, xup_ne, xrow_eq, xrow_ne, Option.toList_some, Option.toList_none, List.singleton_append, List.nil_append, List.cons_append, xnl_n, xnl_i, xnl_r, Nat.zero_add, Nat.add_zero, ↓reduceIte, Nat.reduceEqDiff, Nat.reduceLeDiff, Nat.reduceAdd, Nat.reduceMul, Nat.reduceLT, Nat.one_ne_zero, eq_self, not_true_eq_false, not_false_eq_true, and_self, ck0, cr0, cr1, cr2, cr3, hx]
    simp (disch := (first | assumption | exact xnl_i _ | exact xnl_r _ | exact xnl_n | exact Bool.toNat_lt _ | exact hb _ | exact hb2 _ | omega | exact Nat.le_of_ble_eq_true rfl | rfl | decide)) only [pX0_load_37, pX0_load_38, pX0_load_39, pX0_load_42, pX0_load_43, pX0_load_44, pX0_load_47, pX0_load_48, pX0_load_49, pX0_load_52, pX0_load_53, pX0_load_54, pX0_load_57, nI_add, pk_mul, xn_sub, xn_and, xn_or, xn_xor, xn_shl, xn_shr, xn_lt, xn_le, xn_eq, xrf_some, xup_eq, xup_ne, xrow_eq, xrow_ne, Option.toList_some, Option.toList_none, List.singleton_append, List.nil_append, List.cons_append, xnl_n, xnl_i, xnl_r, Nat.zero_add, Nat.add_zero, ↓reduceIte, Nat.reduceEqDiff, Nat.reduceLeDiff, Nat.reduceAdd, Nat.reduceMul, Nat.reduceLT, Nat.one_ne_zero, eq_self, not_true_eq_false, not_false_eq_true, and_self, ck0, cr0, cr1, cr2, cr3]
end KC2
