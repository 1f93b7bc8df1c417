/-! ===== the class: a context copied, added to, loaded ===== -/
theorem ploadN_s {σ : Nat → Nat} {c m : Nat} {f : Nat → Nat × Nat} : ploadN σ c f (m + 1) = su (su (su (su (ploadN σ c f m) (62 * c + (14 + 3 * m)) (f m).1) (62 * c + (14 + 3 * m + 1)) (f m).2) (62 * c + (14 + 3 * m + 2)) 0) (62 * c) (m + 1) := by
  have e : ploadN σ c f (m + 1) = pappend (ploadN σ c f m) c (f m).1 (f m).2 := rfl
  rw [e]
  unfold pappend
  rw [ploadN_0]
theorem ploadN_o {σ : Nat → Nat} {c i : Nat} {f : Nat → Nat × Nat} : ∀ m, m ≤ 16 → ¬ i = 62 * c → ¬ (62 * c + 14 ≤ i ∧ i < 62 * c + 62) → ploadN σ c f m i = pclear σ c i := by
  intro m
  induction m with
  | zero => intro _ _ _; rfl
  | succ m ih =>
    intro hm h0 h1
    rw [ploadN_s, su_ne (by omega), su_ne (by omega), su_ne (by omega), su_ne (by omega)]
    exact ih (by omega) h0 h1
theorem ploadN_p {σ : Nat → Nat} {c p : Nat} {f : Nat → Nat × Nat} : ∀ m, p < m → ploadN σ c f m (62 * c + (14 + 3 * p)) = (f p).1 ∧ ploadN σ c f m (62 * c + (14 + 3 * p + 1)) = (f p).2 ∧ ploadN σ c f m (62 * c + (14 + 3 * p + 2)) = 0 := by
  intro m
  induction m with
  | zero => intro h; omega
  | succ m ih =>
    intro h
    rw [ploadN_s]
    by_cases hp : p = m
    · subst hp
      refine ⟨?_, ?_, ?_⟩
      · rw [su_ne (by omega), su_ne (by omega), su_ne (by omega), su_eq]
      · rw [su_ne (by omega), su_ne (by omega), su_eq]
      · rw [su_ne (by omega), su_eq]
    · obtain ⟨i1, i2, i3⟩ := ih (by omega)
      refine ⟨?_, ?_, ?_⟩
      · rw [su_ne (by omega), su_ne (by omega), su_ne (by omega), su_ne (by omega)]; exact i1
      · rw [su_ne (by omega), su_ne (by omega), su_ne (by omega), su_ne (by omega)]; exact i2
      · rw [su_ne (by omega), su_ne (by omega), su_ne (by omega), su_ne (by omega)]; exact i3
section KC2
variable {E : Nat × Nat × Nat} {S : xSh} {V V' W : xV} {Q : Option Value → xSh → xV → Prop} {b c d : Nat} {σ : Nat → Nat}
theorem xrow_rn {V : xV} {a e : Nat} {f : Nat → Int32} (h : ¬ e = a) : xrow V a f e = V e := xrow_ne h
theorem k_copyC (hS : cShape S b) (hS2 : cShape S d) (hK : kC V d σ c) (hd : b + 4 < d ∨ d + 4 < b) (hcm : σ (62 * c) ≤ 16) (h4 : σ (62 * c + 4) ≤ 4) : ∃ V', kC V' b σ c ∧ cOut V V' b ∧ ∀ Q : Option Value → xSh → xV → Prop, xC E mX0_copyFrom [.ref b, .ref d] S V Q ↔ Q none S V' := by
  obtain ⟨ck0, cr0, cr1, cr2, cr3, ck1, cn1, ck2, cn2, ck3, cn3, ck4, cn4⟩ := hS
  obtain ⟨dk0, dr0, dr1, dr2, dr3, dk1, dn1, dk2, dn2, dk3, dn3, dk4, dn4⟩ := hS2
  obtain ⟨c4, c5, c6, c7, c8, c9, c10, ca, cb, cc, cd⟩ := hK
  refine ⟨xup (xup (xup (xup (xup (xup (xup (xrow (xrow (xrow (xrow V (b + 1) (va_cpy (V (d + 1)) (V (b + 1)) 0 0 16)) (b + 2) (va_cpy (V (d + 2)) (V (b + 2)) 0 0 16)) (b + 3) (va_cpy (V (d + 3)) (V (b + 3)) 0 0 4)) (b + 4) (va_cpy (V (d + 4)) (V (b + 4)) 0 0 4)) b 4 (nI (σ (62 * c)))) b 5 (nI (kmk σ c))) b 6 (nI (σ (62 * c + 1)))) b 7 (nI (σ (62 * c + 2)))) b 8 (nI (σ (62 * c + 3)))) b 9 (nI (σ (62 * c + 4)))) b 10 (nI (σ (62 * c + 9))), ?_, ?_, fun Q => ?_⟩
  · refine ⟨?_, ?_, ?_, ?_, ?_, ?_, ?_, fun p hp => ?_, fun p hp => ?_, fun i hi => ?_, fun i hi => ?_⟩
    · rw [xup_ne (by omega), xup_ne (by omega), xup_ne (by omega), xup_ne (by omega), xup_ne (by omega), xup_ne (by omega), xup_eq]
    · rw [xup_ne (by omega), xup_ne (by omega), xup_ne (by omega), xup_ne (by omega), xup_ne (by omega), xup_eq]
    · rw [xup_ne (by omega), xup_ne (by omega), xup_ne (by omega), xup_ne (by omega), xup_eq]
    · rw [xup_ne (by omega), xup_ne (by omega), xup_ne (by omega), xup_eq]
    · rw [xup_ne (by omega), xup_ne (by omega), xup_eq]
    · rw [xup_ne (by omega), xup_eq]
    · rw [xup_eq]
    · rw [xup_ne (by omega), xup_ne (by omega), xup_ne (by omega), xup_ne (by omega), xup_ne (by omega), xup_ne (by omega), xup_ne (by omega), xrow_ne (by omega), xrow_ne (by omega), xrow_ne (by omega), xrow_eq, pk_cpy_in (by omega) (by omega), show 0 + (p - 0) = p by omega]
      exact ca p hp
    · rw [xup_ne (by omega), xup_ne (by omega), xup_ne (by omega), xup_ne (by omega), xup_ne (by omega), xup_ne (by omega), xup_ne (by omega), xrow_ne (by omega), xrow_ne (by omega), xrow_eq, pk_cpy_in (by omega) (by omega), show 0 + (p - 0) = p by omega]
      exact cb p hp
    · rw [xup_ne (by omega), xup_ne (by omega), xup_ne (by omega), xup_ne (by omega), xup_ne (by omega), xup_ne (by omega), xup_ne (by omega), xrow_ne (by omega), xrow_eq, pk_cpy_in (by omega) (by omega), show 0 + (i - 0) = i by omega]
      exact cc i hi
    · rw [xup_ne (by omega), xup_ne (by omega), xup_ne (by omega), xup_ne (by omega), xup_ne (by omega), xup_ne (by omega), xup_ne (by omega), xrow_eq, pk_cpy_in (by omega) (by omega), show 0 + (i - 0) = i by omega]
      exact cd i hi
  · exact cOut_t (cOut_row (by omega)) (cOut_t (cOut_row (by omega)) (cOut_t (cOut_row (by omega)) (cOut_t (cOut_row (by omega)) (cOut_t (cOut_up (by omega)) (cOut_t (cOut_up (by omega)) (cOut_t (cOut_up (by omega)) (cOut_t (cOut_up (by omega)) (cOut_t (cOut_up (by omega)) (cOut_t (cOut_up (by omega)) (cOut_up (by omega)))))))))))
  · show xX E mX0_copyFrom 0 [some (.ref b), some (.ref d)] [] S V Q ↔ _
    simp (disch := (first | assumption | exact xnl_i _ | exact xnl_r _ | exact xnl_n | exact Bool.toNat_lt _ | exact hb _ | exact hb2 _ | omega | exact Nat.le_of_ble_eq_true rfl | rfl | decide)) only [pX0_copyFrom_0, pX0_copyFrom_1, pX0_copyFrom_4, pX0_copyFrom_5, pX0_copyFrom_6, pX0_copyFrom_9, pX0_copyFrom_10, pX0_copyFrom_12, pX0_copyFrom_15, pX0_copyFrom_16, pX0_copyFrom_19, pX0_copyFrom_20, pX0_copyFrom_21, pX0_copyFrom_24, pX0_copyFrom_25, pX0_copyFrom_27, pX0_copyFrom_30, pX0_copyFrom_31, pX0_copyFrom_34, pX0_copyFrom_35, pX0_copyFrom_36, pX0_copyFrom_39, pX0_copyFrom_40, pX0_copyFrom_41, pX0_copyFrom_44, pX0_copyFrom_45, pX0_copyFrom_48, pX0_copyFrom_49, pX0_copyFrom_50, pX0_copyFrom_53, pX0_copyFrom_54, pX0_copyFrom_55, pX0_copyFrom_58, pX0_copyFrom_59, pX0_copyFrom_60, pX0_copyFrom_63, pX0_copyFrom_66, pX0_copyFrom_67, pX0_copyFrom_68, pX0_copyFrom_71, pX0_copyFrom_74, pX0_copyFrom_75, pX0_copyFrom_76, pX0_copyFrom_79, pX0_copyFrom_82, pX0_copyFrom_83, pX0_copyFrom_84, pX0_copyFrom_87, pX0_copyFrom_90, pX0_copyFrom_91, pX0_copyFrom_92, pX0_copyFrom_95, pX0_copyFrom_98, pX0_copyFrom_99, pX0_copyFrom_100, pX0_copyFrom_103, pX0_copyFrom_106, pX0_copyFrom_107, pX0_copyFrom_108, pX0_copyFrom_111, pX0_copyFrom_114, nI_add, pk_mul, xn_sub, xn_and, xn_or, xn_xor, xn_shl, xn_shr, xn_lt, xn_le, xn_eq, xrf_some, xup_eq, xup_ne, xrow_eq, xrow_ne, Option.toList_some, Option.toList_none, List.singleton_append, List.nil_append, List.cons_append, xnl_n, xnl_i, xnl_r, Nat.zero_add, Nat.add_zero, ↓reduceIte, Nat.reduceEqDiff, Nat.reduceLeDiff, Nat.reduceAdd, Nat.reduceMul, Nat.reduceLT, Nat.one_ne_zero, eq_self, not_true_eq_false, not_false_eq_true, and_self, ck0, cr0, cr1, cr2, cr3, dk0, dr0, dr1, dr2, dr3, xrow_rn, c4, c5, c6, c7, c8, c9, c10]
theorem k_appendV {q k n : Nat} (hS : cShape S b) (hq : V b 4 = nI q) (h : q < 16) : xC E mX0_append [.ref b, .int (nI k), .int (nI n)] S V Q ↔ Q none S (xup (xup (xup V (b + 1) q (nI k)) (b + 2) q (nI n)) b 4 (nI (q + 1))) := by
  obtain ⟨ck0, cr0, cr1, cr2, cr3, ck1, cn1, ck2, cn2, ck3, cn3, ck4, cn4⟩ := hS
  have h' : ¬ 16 ≤ q := by omega
  show xX E mX0_append 0 [some (.ref b), some (.int (nI k)), some (.int (nI n))] [] S V Q ↔ _
  simp (disch := (first | assumption | exact xnl_i _ | exact xnl_r _ | exact xnl_n | exact Bool.toNat_lt _ | exact hb _ | exact hb2 _ | omega | exact Nat.le_of_ble_eq_true rfl | rfl | decide)) only [pX0_append_0, pX0_append_1, pX0_append_4, pX0_append_6, pX0_append_9, pX0_append_10, pX0_append_13, pX0_append_14, pX0_append_17, pX0_append_18, pX0_append_19, pX0_append_20, pX0_append_23, pX0_append_24, pX0_append_27, pX0_append_28, pX0_append_29, pX0_append_30, pX0_append_30i, pX0_append_31, pX0_append_34, pX0_append_35, pX0_append_36, pX0_append_39, nI_add, pk_mul, xn_sub, xn_and, xn_or, xn_xor, xn_shl, xn_shr, xn_lt, xn_le, xn_eq, xrf_some, xup_eq, xup_ne, xrow_eq, xrow_ne, Option.toList_some, Option.toList_none, List.singleton_append, List.nil_append, List.cons_append, xnl_n, xnl_i, xnl_r, Nat.zero_add, Nat.add_zero, ↓reduceIte, Nat.reduceEqDiff, Nat.reduceLeDiff, Nat.reduceAdd, Nat.reduceMul, Nat.reduceLT, Nat.one_ne_zero, eq_self, not_true_eq_false, not_false_eq_true, and_self, ck0, cr0, cr1, cr2, cr3, hq, h']
theorem kC_append {k n : Nat} (hK : kC V b σ c) (hcm : σ (62 * c) < 16) (h4 : σ (62 * c + 4) ≤ 4) : kC (xup (xup (xup V (b + 1) (σ (62 * c)) (nI k)) (b + 2) (σ (62 * c)) (nI n)) b 4 (nI (σ (62 * c) + 1))) b (pappend σ c k n) c := by
  obtain ⟨c4, c5, c6, c7, c8, c9, c10, ca, cb, cc, cd⟩ := hK
  have e : ∀ i, ¬ i = 62 * c → (i < 62 * c + (14 + 3 * σ (62 * c)) ∨ 62 * c + (14 + 3 * σ (62 * c) + 2) < i) → pappend σ c k n i = σ i := fun i h1 h2 => by
    unfold pappend; rw [su_ne (by omega), su_ne (by omega), su_ne (by omega), su_ne (by omega)]
  have e0 : pappend σ c k n (62 * c) = σ (62 * c) + 1 := su_eq
  have ek : pappend σ c k n (62 * c + (14 + 3 * σ (62 * c))) = k := by
    unfold pappend; rw [su_ne (by omega), su_ne (by omega), su_ne (by omega), su_eq]
  have en : pappend σ c k n (62 * c + (14 + 3 * σ (62 * c) + 1)) = n := by
    unfold pappend; rw [su_ne (by omega), su_ne (by omega), su_eq]
  have em0 : pappend σ c k n (62 * c + (14 + 3 * σ (62 * c) + 2)) = 0 := by
    unfold pappend; rw [su_ne (by omega), su_eq]
  have em : kmk (pappend σ c k n) c = kmk σ c := bm_congr (fun p hp => by
    rw [e0]
    by_cases hpl : p < σ (62 * c)
    · rw [e _ (by omega) (by omega)]; simp [hpl, Nat.lt_succ_of_lt hpl]
    · by_cases hpe : p = σ (62 * c)
      · subst hpe; rw [em0]; simp
      · have h1 : ¬ p < σ (62 * c) + 1 := by omega
        simp [hpl, h1])
  refine ⟨?_, ?_, ?_, ?_, ?_, ?_, ?_, fun p hp => ?_, fun p hp => ?_, fun i hi => ?_, fun i hi => ?_⟩
  · rw [xup_eq, e0]
  · rw [xup_ne (by omega), xup_ne (by omega), xup_ne (by omega), em]; exact c5
  · rw [xup_ne (by omega), xup_ne (by omega), xup_ne (by omega), e _ (by omega) (by omega)]; exact c6
  · rw [xup_ne (by omega), xup_ne (by omega), xup_ne (by omega), e _ (by omega) (by omega)]; exact c7
  · rw [xup_ne (by omega), xup_ne (by omega), xup_ne (by omega), e _ (by omega) (by omega)]; exact c8
  · rw [xup_ne (by omega), xup_ne (by omega), xup_ne (by omega), e _ (by omega) (by omega)]; exact c9
  · rw [xup_ne (by omega), xup_ne (by omega), xup_ne (by omega), e _ (by omega) (by omega)]; exact c10
  · rw [e0] at hp
    by_cases hpe : p = σ (62 * c)
    · subst hpe
      rw [xup_ne (by omega), xup_ne (by omega), xup_eq]
      exact congrArg nI ek.symm
    · rw [xup_ne (by omega), xup_ne (by omega), xup_ne (by omega), ca p (by omega)]
      exact congrArg nI (e (62 * c + (14 + 3 * p)) (by omega) (by omega)).symm
  · rw [e0] at hp
    by_cases hpe : p = σ (62 * c)
    · subst hpe
      rw [xup_ne (by omega), xup_eq]
      exact congrArg nI en.symm
    · rw [xup_ne (by omega), xup_ne (by omega), xup_ne (by omega), cb p (by omega)]
      exact congrArg nI (e (62 * c + (14 + 3 * p + 1)) (by omega) (by omega)).symm
  · rw [e _ (by omega) (by omega)] at hi
    rw [xup_ne (by omega), xup_ne (by omega), xup_ne (by omega), e _ (by omega) (by omega)]; exact cc i hi
  · rw [xup_ne (by omega), xup_ne (by omega), xup_ne (by omega), e _ (by omega) (by omega)]; exact cd i hi
end KC2

