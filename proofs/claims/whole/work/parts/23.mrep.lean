/-! ===== all that there is: a state, states to undo, saved ones, a text ===== -/
abbrev pG : Type := (Nat → Nat) × (Nat × (Nat → Nat → Nat)) × ((Nat → Nat → Nat) × (Nat → Bool)) × (Nat × (Nat → Nat))
def gσ (g : pG) : Nat → Nat := g.1
def gu (g : pG) : Nat := g.2.1.1
def gU (g : pG) : Nat → Nat → Nat := g.2.1.2
def gsv (g : pG) : Nat → Nat → Nat := g.2.2.1.1
def gis (g : pG) : Nat → Bool := g.2.2.1.2
def gln (g : pG) : Nat := g.2.2.2.1
def gpd (g : pG) : Nat → Nat := g.2.2.2.2
def gset (g : pG) (σ : Nat → Nat) : pG := (σ, g.2)
def gput (g : pG) (n : Nat) (pd : Nat → Nat) : pG := (g.1, g.2.1, g.2.2.1, n, pd)
def grec (g : pG) : pG := (g.1, if gu g = 6 then (6, fun i => if i = 5 then gσ g else gU g (i + 1)) else (gu g + 1, fun i => if i = gu g then gσ g else gU g i), g.2.2)
def gsave (g : pG) (k : Nat) : pG := (g.1, g.2.1, ((fun i => if i = k then gσ g else gsv g i), fun i => if i = k then true else gis g i), g.2.2.2)
def gundo (g : pG) : pG := (gU g (gu g - 1), (gu g - 1, gU g), g.2.2)
def gG (g : pG) : Prop := gs (gσ g) 100000 ∧ gu g ≤ 6 ∧ (∀ i, i < gu g → gs (gU g i) 100000) ∧ (∀ k, k < 2 → gis g k = true → gs (gsv g k) 100000) ∧ gln g ≤ 72 ∧ ∀ j, j < gln g → 33 ≤ gpd g j ∧ gpd g j ≤ 126
theorem gG_set {g : pG} {σ : Nat → Nat} (h : gG g) (hs : gs σ 100000) : gG (gset g σ) := ⟨hs, h.2⟩
theorem gG_rec {g : pG} (h : gG g) : gG (grec g) := by
  obtain ⟨h1, h2, h3, h4⟩ := h
  unfold grec
  by_cases h6 : gu g = 6
  · rw [if_pos h6]
    refine ⟨h1, Nat.le_refl _, fun i hi => ?_, h4⟩
    show gs (if i = 5 then gσ g else gU g (i + 1)) _
    have hi : i < 6 := hi
    split
    · exact h1
    · exact h3 _ (by omega)
  · rw [if_neg h6]
    refine ⟨h1, ?_, fun i hi => ?_, h4⟩
    · show gu g + 1 ≤ 6
      omega
    · show gs (if i = gu g then gσ g else gU g i) _
      have hi : i < gu g + 1 := hi
      split
      · exact h1
      · exact h3 _ (by omega)
theorem gG_save {g : pG} {k : Nat} (h : gG g) : gG (gsave g k) := by
  obtain ⟨h1, h2, h3, h4, h5⟩ := h
  refine ⟨h1, h2, h3, fun i hi hs => ?_, h5⟩
  show gs (if i = k then gσ g else gsv g i) _
  have hs : (if i = k then true else gis g i) = true := hs
  by_cases hik : i = k
  · rw [if_pos hik]; exact h1
  · rw [if_neg hik]; rw [if_neg hik] at hs; exact h4 i hi hs
theorem gG_undo {g : pG} (h : gG g) (h0 : 0 < gu g) : gG (gundo g) := by
  obtain ⟨h1, h2, h3, h4, h5⟩ := h
  exact ⟨h3 _ (by omega), by show gu g - 1 ≤ 6; omega, fun i hi => h3 i (by have : i < gu g - 1 := hi; omega), h4, h5⟩
/-- copied: n cells of f from e on, to d on -/
def cpf (f h : Nat → Int32) (d e n : Nat) : Nat → Int32 := fun j => if d ≤ j ∧ j < d + n then h (j - d + e) else f j
theorem cpf_0 {f h : Nat → Int32} {d e : Nat} : cpf f h d e 0 = f := by funext j; unfold cpf; rw [if_neg (by omega)]
theorem cpf_s {f h : Nat → Int32} {d e n : Nat} : (fun i => if i = d + n then h (e + n) else cpf f h d e n i) = cpf f h d e (n + 1) := by
  funext j
  unfold cpf
  by_cases h1 : j = d + n
  · rw [if_pos h1, if_pos (by omega)]; congr 1; omega
  · rw [if_neg h1]
    by_cases h2 : d ≤ j ∧ j < d + n
    · rw [if_pos h2, if_pos (by omega)]
    · rw [if_neg h2, if_neg (by omega)]
theorem cpf_in {f h : Nat → Int32} {d e n j : Nat} (h1 : d ≤ j) (h2 : j < d + n) : cpf f h d e n j = h (j - d + e) := if_pos ⟨h1, h2⟩
theorem cpf_out {f h : Nat → Int32} {d e n j : Nat} (h1 : ¬ (d ≤ j ∧ j < d + n)) : cpf f h d e n j = f j := if_neg h1
theorem xup_row {V : xV} {a j : Nat} {f : Nat → Int32} {v : Int32} : xup (xrow V a f) a j v = xrow V a (fun i => if i = j then v else f i) := by
  funext b i
  unfold xup xrow
  by_cases hb : b = a
  · by_cases hj : i = j <;> simp [hb, hj]
  · simp [hb]
theorem xrow_self {V : xV} {a : Nat} : xrow V a (V a) = V := by
  funext b; unfold xrow; by_cases hb : b = a <;> simp [hb]
theorem xup_cp {V : xV} {a d e n : Nat} {f h : Nat → Int32} {v : Int32} (hv : v = h (e + n)) {k : Nat} (hk : k = d + n) : xup (xrow V a (cpf f h d e n)) a k v = xrow V a (cpf f h d e (n + 1)) := by
  rw [xup_row, hv, hk, cpf_s]
/-- the reference, in the cells from t on -/
def mRep (S : xSh) (V : xV) (t : Nat) (g : pG) : Prop :=
  mShape S t ∧ mV V t (gσ g) ∧ V t 4 = nI (gu g) ∧ (∀ i, i < gu g → ∀ j, j < 502 → V (t + 3) (502 * i + j) = nI (gU g i j)) ∧ (∀ k, k < 2 → V (t + 5) k = nI (gis g k).toNat) ∧ (∀ k, k < 2 → gis g k = true → ∀ j, j < 502 → V (t + 4) (502 * k + j) = nI (gsv g k j)) ∧ V t 8 = nI (gln g) ∧ ∀ j, j < gln g → V (t + 6) j = nI (gpd g j)
def mOut (V V' : xV) (t : Nat) : Prop := ∀ a, a < t ∨ t + 9 < a → V' a = V a
section MRP
variable {E : Nat × Nat × Nat} {S : xSh} {V V' V2 : xV} {Q : Option Value → xSh → xV → Prop} {t : Nat} {g : pG}
theorem mOut_r : mOut V V t := fun _ _ => rfl
theorem mOut_t (h1 : mOut V V' t) (h2 : mOut V' V2 t) : mOut V V2 t := fun a ha => (h2 a ha).trans (h1 a ha)
theorem mOut_row {a : Nat} {f : Nat → Int32} (h : t ≤ a ∧ a ≤ t + 9) : mOut V (xrow V a f) t := fun b hb => xrow_ne (by omega)
theorem mOut_up {a j : Nat} {v : Int32} (h : t ≤ a ∧ a ≤ t + 9) : mOut V (xup V a j v) t := fun b hb => by funext i; exact xup_ne (by omega)
theorem mOut_set {σ : Nat → Nat} : mOut V (mset V t σ) t := mOut_row (by omega)
theorem mOut_fr (h : mFr V V' t) : mOut V V' t := fun a ha => h a (by omega) (by omega) (by omega)
theorem mRep_fr {σ : Nat → Nat} (h : mRep S V t g) (h2 : mFr V V' t) (h3 : mV V' t σ) : mRep S V' t (gset g σ) := by
  obtain ⟨g1, g2, g3, g4, g5, g6, g7, g8⟩ := h
  have e : ∀ a, ¬ a = t + 1 → ¬ a = t + 7 → ¬ a = t + 8 → V' a = V a := h2
  exact ⟨g1, h3, by rw [e t (by omega) (by omega) (by omega)]; exact g3, by rw [e (t + 3) (by omega) (by omega) (by omega)]; exact g4, by rw [e (t + 5) (by omega) (by omega) (by omega)]; exact g5, by rw [e (t + 4) (by omega) (by omega) (by omega)]; exact g6, by rw [e t (by omega) (by omega) (by omega)]; exact g7, by rw [e (t + 6) (by omega) (by omega) (by omega)]; exact g8⟩
theorem mRep_set {σ : Nat → Nat} (h : mRep S V t g) : mRep S (mset V t σ) t (gset g σ) := mRep_fr h mFr_set mset_V
theorem mRep_up {j : Nat} {v : Int32} (h : mRep S V t g) (h3 : ¬ j = 4) (h8 : ¬ j = 8) : mRep S (xup V t j v) t g := by
  obtain ⟨g1, g2, g3, g4, g5, g6, g7, g8⟩ := h
  have e : ∀ a, ¬ a = t → xup V t j v a = V a := fun a ha => by funext i; exact xup_ne (by omega)
  exact ⟨g1, fun i => by rw [e _ (by omega)]; exact g2 i, by rw [xup_ne (by omega)]; exact g3, by rw [e (t + 3) (by omega)]; exact g4, by rw [e (t + 5) (by omega)]; exact g5, by rw [e (t + 4) (by omega)]; exact g6, by rw [xup_ne (by omega)]; exact g7, by rw [e (t + 6) (by omega)]; exact g8⟩
/-- a row that holds nothing of the state -/
theorem mRep_row {a : Nat} {f : Nat → Int32} (h : mRep S V t g) (ha : a = t + 2 ∨ a = t + 7 ∨ a = t + 8 ∨ a = t + 9) : mRep S (xrow V a f) t g := by
  obtain ⟨g1, g2, g3, g4, g5, g6, g7, g8⟩ := h
  have e : ∀ b, ¬ b = a → xrow V a f b = V b := fun b hb => xrow_ne hb
  exact ⟨g1, fun i => by rw [e _ (by omega)]; exact g2 i, by rw [e t (by omega)]; exact g3, by rw [e (t + 3) (by omega)]; exact g4, by rw [e (t + 5) (by omega)]; exact g5, by rw [e (t + 4) (by omega)]; exact g6, by rw [e t (by omega)]; exact g7, by rw [e (t + 6) (by omega)]; exact g8⟩
theorem mRep_o (h : mRep S V t g) (h2 : ∀ a, t ≤ a → a ≤ t + 9 → V' a = V a) : mRep S V' t g := by
  obtain ⟨g1, g2, g3, g4, g5, g6, g7, g8⟩ := h
  have e := fun k (hk : k ≤ 9) => h2 (t + k) (by omega) (by omega)
  have e0 := h2 t (by omega) (by omega)
  exact ⟨g1, fun i => by rw [e 1 (by omega)]; exact g2 i, by rw [e0]; exact g3, by rw [e 3 (by omega)]; exact g4, by rw [e 5 (by omega)]; exact g5, by rw [e 4 (by omega)]; exact g6, by rw [e0]; exact g7, by rw [e 6 (by omega)]; exact g8⟩
theorem m_records2 (hR : mRep S V t g) (hG : gG g) : ∃ V', mRep S V' t (grec g) ∧ mOut V V' t ∧ ((∀ a, ¬ a = t → ¬ a = t + 3 → V' a = V a) ∧ ∀ j, ¬ j = 4 → V' t j = V t j) ∧ ∀ Q : Option Value → xSh → xV → Prop, xC E mX5_records [.ref t] S V Q ↔ Q none S V' := by
  obtain ⟨hS, hσ, g3, g4, g5, g6, g7, g8⟩ := hR
  have hS' := hS; obtain ⟨k0, r1, r2, r3, r5, r6, r7, r9, r10, r14, k1, n1, k2, n2, k3, n3, k4, n4, k5, n5, k6, n6, k7, n7, k8, n8, k9, n9⟩ := hS'
  have hv : ∀ i, V (t + 1) i = nI (gσ g i) := hσ
  have hu := hG.2.1
  -- the first loop
  have loop1 : ∀ (Q : Option Value → xSh → xV → Prop), ∀ k i, i + k = 2510 → (xX E mX5_records 11 [some (.ref t), some (.int (nI i))] [] S (xrow V (t + 3) (cpf (V (t + 3)) (V (t + 3)) 0 502 i)) Q ↔ xX E mX5_records 40 [some (.ref t), some (.int (nI 2510))] [] S (xrow V (t + 3) (cpf (V (t + 3)) (V (t + 3)) 0 502 2510)) Q) := by
    intro Q k
    induction k with
    | zero =>
      intro i hn
      have hi : i = 2510 := by omega
      subst hi
      simp (disch := (first | assumption | exact xnl_i _ | exact xnl_r _ | exact xnl_n | exact Bool.toNat_lt _ | exact hb _ | exact hb2 _ | omega | exact Nat.le_of_ble_eq_true rfl | rfl | decide)) only [pX5_records_11, pX5_records_12, pX5_records_15, nI_add, pk_mul, xn_sub, xn_and, xn_or, xn_xor, xn_shl, xn_shr, xn_lt, xn_le, xn_eq, xrf_some, xup_eq, xup_ne, xrow_eq, xrow_ne, Option.toList_some, Option.toList_none, List.singleton_append, List.nil_append, List.cons_append, xnl_n, xnl_i, xnl_r, Nat.zero_add, Nat.add_zero, ↓reduceIte, Nat.reduceEqDiff, Nat.reduceLeDiff, Nat.reduceAdd, Nat.reduceMul, Nat.reduceLT, Nat.one_ne_zero, eq_self, not_true_eq_false, not_false_eq_true, and_self]
    | succ k ih =>
      intro i hn
      have h : ¬ 2510 ≤ i := by omega
      have ih2 := ih (i + 1) (by omega)
      rw [pX5_records_11]
      simp (disch := (first | assumption | exact xnl_i _ | exact xnl_r _ | exact xnl_n | exact Bool.toNat_lt _ | exact hb _ | exact hb2 _ | omega | exact Nat.le_of_ble_eq_true rfl | rfl | decide)) only [pX5_records_12, pX5_records_15, pX5_records_18, pX5_records_19, pX5_records_22, pX5_records_23, pX5_records_24, pX5_records_27, pX5_records_28, pX5_records_31, pX5_records_32, pX5_records_33, pX5_records_34, pX5_records_37, nI_add, pk_mul, xn_sub, xn_and, xn_or, xn_xor, xn_shl, xn_shr, xn_lt, xn_le, xn_eq, xrf_some, xup_eq, xup_ne, xrow_eq, xrow_ne, Option.toList_some, Option.toList_none, List.singleton_append, List.nil_append, List.cons_append, xnl_n, xnl_i, xnl_r, Nat.zero_add, Nat.add_zero, ↓reduceIte, Nat.reduceEqDiff, Nat.reduceLeDiff, Nat.reduceAdd, Nat.reduceMul, Nat.reduceLT, Nat.one_ne_zero, eq_self, not_true_eq_false, not_false_eq_true, and_self, k0, r1, r2, r3, r5, r6, r7, r9, r10, r14, h]
      rw [xup_cp (by rw [cpf_out (by omega), Nat.add_comm i 502]) (by omega)]
      exact ih2
  -- the second
  have loop2 : ∀ (Q : Option Value → xSh → xV → Prop) (W : xV) (u : Nat), u < 6 → W t 4 = nI u → (∀ i, W (t + 1) i = nI (gσ g i)) → ∀ k i, i + k = 502 → (xX E mX5_records 52 [some (.ref t), some (.int (nI i))] [] S (xrow W (t + 3) (cpf (W (t + 3)) (W (t + 1)) (502 * u) 0 i)) Q ↔ Q none S (xup (xrow W (t + 3) (cpf (W (t + 3)) (W (t + 1)) (502 * u) 0 502)) t 4 (nI (u + 1)))) := by
    intro Q W u hu hw4 hw1 k
    induction k with
    | zero =>
      intro i hn
      have hi : i = 502 := by omega
      subst hi
      simp (disch := (first | assumption | exact xnl_i _ | exact xnl_r _ | exact xnl_n | exact Bool.toNat_lt _ | exact hb _ | exact hb2 _ | omega | exact Nat.le_of_ble_eq_true rfl | rfl | decide)) only [pX5_records_52, pX5_records_53, pX5_records_56, pX5_records_59, pX5_records_60, pX5_records_63, pX5_records_66, pX5_records_67, pX5_records_70, pX5_records_71, pX5_records_72, pX5_records_73, pX5_records_74, pX5_records_77, pX5_records_78, pX5_records_79, pX5_records_80, pX5_records_83, pX5_records_86, pX5_records_87, pX5_records_87i, pX5_records_88, pX5_records_91, pX5_records_92, pX5_records_93, pX5_records_96, nI_add, pk_mul, xn_sub, xn_and, xn_or, xn_xor, xn_shl, xn_shr, xn_lt, xn_le, xn_eq, xrf_some, xup_eq, xup_ne, xrow_eq, xrow_ne, Option.toList_some, Option.toList_none, List.singleton_append, List.nil_append, List.cons_append, xnl_n, xnl_i, xnl_r, Nat.zero_add, Nat.add_zero, ↓reduceIte, Nat.reduceEqDiff, Nat.reduceLeDiff, Nat.reduceAdd, Nat.reduceMul, Nat.reduceLT, Nat.one_ne_zero, eq_self, not_true_eq_false, not_false_eq_true, and_self, k0, r1, r2, r3, r5, r6, r7, r9, r10, r14, hw4]
    | succ k ih =>
      intro i hn
      have h : ¬ 502 ≤ i := by omega
      have ih2 := ih (i + 1) (by omega)
      rw [pX5_records_52]
      simp (disch := (first | assumption | exact xnl_i _ | exact xnl_r _ | exact xnl_n | exact Bool.toNat_lt _ | exact hb _ | exact hb2 _ | omega | exact Nat.le_of_ble_eq_true rfl | rfl | decide)) only [pX5_records_53, pX5_records_56, pX5_records_59, pX5_records_60, pX5_records_63, pX5_records_66, pX5_records_67, pX5_records_70, pX5_records_71, pX5_records_72, pX5_records_73, pX5_records_74, pX5_records_77, pX5_records_78, pX5_records_79, pX5_records_80, pX5_records_83, nI_add, pk_mul, xn_sub, xn_and, xn_or, xn_xor, xn_shl, xn_shr, xn_lt, xn_le, xn_eq, xrf_some, xup_eq, xup_ne, xrow_eq, xrow_ne, Option.toList_some, Option.toList_none, List.singleton_append, List.nil_append, List.cons_append, xnl_n, xnl_i, xnl_r, Nat.zero_add, Nat.add_zero, ↓reduceIte, Nat.reduceEqDiff, Nat.reduceLeDiff, Nat.reduceAdd, Nat.reduceMul, Nat.reduceLT, Nat.one_ne_zero, eq_self, not_true_eq_false, not_false_eq_true, and_self, k0, r1, r2, r3, r5, r6, r7, r9, r10, r14, h, hw4, hw1]
      rw [xup_cp (by rw [Nat.zero_add, hw1]) (by omega)]
      exact ih2
  -- the state behind the second
  have fin : ∀ (W : xV) (u : Nat) (U : Nat → Nat → Nat), u < 6 → W t 4 = nI u → (∀ a, a < t ∨ t + 9 < a → W a = V a) → (∀ a, ¬ a = t → ¬ a = t + 3 → W a = V a) → (∀ j, ¬ j = 4 → W t j = V t j) → (∀ i, i < u → ∀ j, j < 502 → W (t + 3) (502 * i + j) = nI (U i j)) → ((u + 1, fun i => if i = u then gσ g else U i) = (grec g).2.1 ∨ (∀ i, i < u + 1 → (fun i => if i = u then gσ g else U i) i = (grec g).2.1.2 i) ∧ u + 1 = (grec g).2.1.1) → mRep S (xup (xrow W (t + 3) (cpf (W (t + 3)) (W (t + 1)) (502 * u) 0 502)) t 4 (nI (u + 1))) t (grec g) ∧ mOut V (xup (xrow W (t + 3) (cpf (W (t + 3)) (W (t + 1)) (502 * u) 0 502)) t 4 (nI (u + 1))) t ∧ ((∀ a, ¬ a = t → ¬ a = t + 3 → (xup (xrow W (t + 3) (cpf (W (t + 3)) (W (t + 1)) (502 * u) 0 502)) t 4 (nI (u + 1))) a = V a) ∧ ∀ j, ¬ j = 4 → (xup (xrow W (t + 3) (cpf (W (t + 3)) (W (t + 1)) (502 * u) 0 502)) t 4 (nI (u + 1))) t j = V t j) := by
    intro W u U hu hw4 hwo hwi hw8 hwU hrec
    have hrec : (∀ i, i < u + 1 → (fun i => if i = u then gσ g else U i) i = (grec g).2.1.2 i) ∧ u + 1 = (grec g).2.1.1 := by
      rcases hrec with h | h
      · rw [← h]; exact ⟨fun _ _ => rfl, rfl⟩
      · exact h
    have e : ∀ a, ¬ a = t → ¬ a = t + 3 → xup (xrow W (t + 3) (cpf (W (t + 3)) (W (t + 1)) (502 * u) 0 502)) t 4 (nI (u + 1)) a = V a := fun a h1 h2 => by
      funext i; rw [xup_ne (by omega), xrow_ne h2, hwi a h1 h2]
    have e3 : ∀ i, xup (xrow W (t + 3) (cpf (W (t + 3)) (W (t + 1)) (502 * u) 0 502)) t 4 (nI (u + 1)) (t + 3) i = cpf (W (t + 3)) (W (t + 1)) (502 * u) 0 502 i := fun i => by rw [xup_ne (by omega), xrow_eq]
    refine ⟨⟨hS, fun i => by rw [e (t + 1) (by omega) (by omega)]; exact hσ i, ?_, fun i hi j hj => ?_, by rw [e (t + 5) (by omega) (by omega)]; exact g5, by rw [e (t + 4) (by omega) (by omega)]; exact g6, by rw [xup_ne (by omega), xrow_ne (by omega), hw8 8 (by decide)]; exact g7, by rw [e (t + 6) (by omega) (by omega)]; exact g8⟩, fun a ha => ?_, e, fun j hj => by rw [xup_ne (by omega), xrow_ne (by omega), hw8 j hj]⟩
    · rw [xup_eq, hrec.2]; rfl
    · have hi : i < (grec g).2.1.1 := hi
      rw [← hrec.2] at hi
      have hU : gU (grec g) i = (fun i => if i = u then gσ g else U i) i := (hrec.1 i hi).symm
      rw [e3, hU]
      by_cases hiu : i = u
      · subst hiu
        rw [cpf_in (by omega) (by omega), hwi (t + 1) (by omega) (by omega), hv]
        simp only [if_true]
        congr 2; omega
      · rw [cpf_out (by omega), hwU i (by omega) j hj]
        simp only [hiu, if_false]
    · funext i; rw [xup_ne (by omega), xrow_ne (by omega), hwo a ha]
  by_cases h6 : gu g = 6
  · have h3 := fun (Q : Option Value → xSh → xV → Prop) => loop1 Q 2510 0 rfl
    rw [cpf_0, xrow_self] at h3
    obtain ⟨W, hW⟩ : ∃ W, W = xup (xrow V (t + 3) (cpf (V (t + 3)) (V (t + 3)) 0 502 2510)) t 4 (nI 5) := ⟨_, rfl⟩
    have hw4 : W t 4 = nI 5 := by rw [hW, xup_eq]
    have hwi : ∀ a, ¬ a = t → ¬ a = t + 3 → W a = V a := fun a h1 h2 => by rw [hW]; funext i; rw [xup_ne (by omega), xrow_ne h2]
    have hw3 : ∀ i, W (t + 3) i = cpf (V (t + 3)) (V (t + 3)) 0 502 2510 i := fun i => by rw [hW, xup_ne (by omega), xrow_eq]
    have h8 : ∀ j, ¬ j = 4 → W t j = V t j := fun j hj => by rw [hW, xup_ne (by omega), xrow_ne (by omega)]
    have h4 := fun (Q : Option Value → xSh → xV → Prop) => loop2 Q W 5 (by decide) hw4 (fun i => by rw [hwi _ (by omega) (by omega)]; exact hv i) 502 0 rfl
    rw [cpf_0, xrow_self] at h4
    obtain ⟨f1, f2, f3⟩ := fin W 5 (fun i => gU g (i + 1)) (by decide) hw4 (fun a ha => hwi a (by omega) (by omega)) hwi h8 (fun i hi j hj => by
      rw [hw3, cpf_in (by omega) (by omega), ← g4 (i + 1) (by omega) j hj]
      congr 1; omega) (Or.inl (by unfold grec; rw [if_pos h6]))
    refine ⟨_, f1, f2, f3, fun Q => ?_⟩
    show xX E mX5_records 0 [some (.ref t), none] [] S V Q ↔ _
    have hloc : (xX E mX5_records 0 [some (.ref t), none] [] S V Q ↔ xX E mX5_records 11 [some (.ref t), some (.int (nI 0))] [] S V Q) := by
      simp (disch := (first | assumption | exact xnl_i _ | exact xnl_r _ | exact xnl_n | exact Bool.toNat_lt _ | exact hb _ | exact hb2 _ | omega | exact Nat.le_of_ble_eq_true rfl | rfl | decide)) only [pX5_records_0, pX5_records_1, pX5_records_4, pX5_records_6, pX5_records_9, pX5_records_10, nI_add, pk_mul, xn_sub, xn_and, xn_or, xn_xor, xn_shl, xn_shr, xn_lt, xn_le, xn_eq, xrf_some, xup_eq, xup_ne, xrow_eq, xrow_ne, Option.toList_some, Option.toList_none, List.singleton_append, List.nil_append, List.cons_append, xnl_n, xnl_i, xnl_r, Nat.zero_add, Nat.add_zero, ↓reduceIte, Nat.reduceEqDiff, Nat.reduceLeDiff, Nat.reduceAdd, Nat.reduceMul, Nat.reduceLT, Nat.one_ne_zero, eq_self, not_true_eq_false, not_false_eq_true, and_self, k0, r1, r2, r3, r5, r6, r7, r9, r10, r14, g3, h6]
    rw [hloc, h3]
    have h4' := h4 Q
    rw [hW] at h4' ⊢
    simp (disch := (first | assumption | exact xnl_i _ | exact xnl_r _ | exact xnl_n | exact Bool.toNat_lt _ | exact hb _ | exact hb2 _ | omega | exact Nat.le_of_ble_eq_true rfl | rfl | decide)) only [pX5_records_40, pX5_records_41, pX5_records_41i, pX5_records_42, pX5_records_45, pX5_records_46, pX5_records_47, pX5_records_50, pX5_records_51, nI_add, pk_mul, xn_sub, xn_and, xn_or, xn_xor, xn_shl, xn_shr, xn_lt, xn_le, xn_eq, xrf_some, xup_eq, xup_ne, xrow_eq, xrow_ne, Option.toList_some, Option.toList_none, List.singleton_append, List.nil_append, List.cons_append, xnl_n, xnl_i, xnl_r, Nat.zero_add, Nat.add_zero, ↓reduceIte, Nat.reduceEqDiff, Nat.reduceLeDiff, Nat.reduceAdd, Nat.reduceMul, Nat.reduceLT, Nat.one_ne_zero, eq_self, not_true_eq_false, not_false_eq_true, and_self, k0, r1, r2, r3, r5, r6, r7, r9, r10, r14, g3, h6]
    exact h4'
  · have h4 := fun (Q : Option Value → xSh → xV → Prop) => loop2 Q V (gu g) (by omega) g3 hv 502 0 rfl
    rw [cpf_0, xrow_self] at h4
    obtain ⟨f1, f2, f3⟩ := fin V (gu g) (gU g) (by omega) g3 (fun _ _ => rfl) (fun _ _ _ => rfl) (fun _ _ => rfl) g4 (Or.inl (by unfold grec; rw [if_neg h6]))
    refine ⟨_, f1, f2, f3, fun Q => ?_⟩
    show xX E mX5_records 0 [some (.ref t), none] [] S V Q ↔ _
    have hloc : (xX E mX5_records 0 [some (.ref t), none] [] S V Q ↔ xX E mX5_records 52 [some (.ref t), some (.int (nI 0))] [] S V Q) := by
      have hub : gu g < 2147483648 := by omega
      simp (disch := (first | assumption | exact xnl_i _ | exact xnl_r _ | exact xnl_n | exact Bool.toNat_lt _ | exact hb _ | exact hb2 _ | omega | exact Nat.le_of_ble_eq_true rfl | rfl | decide)) only [pX5_records_0, pX5_records_1, pX5_records_4, pX5_records_6, pX5_records_9, pX5_records_10, pX5_records_50, pX5_records_51, nI_add, pk_mul, xn_sub, xn_and, xn_or, xn_xor, xn_shl, xn_shr, xn_lt, xn_le, xn_eq, xrf_some, xup_eq, xup_ne, xrow_eq, xrow_ne, Option.toList_some, Option.toList_none, List.singleton_append, List.nil_append, List.cons_append, xnl_n, xnl_i, xnl_r, Nat.zero_add, Nat.add_zero, ↓reduceIte, Nat.reduceEqDiff, Nat.reduceLeDiff, Nat.reduceAdd, Nat.reduceMul, Nat.reduceLT, Nat.one_ne_zero, eq_self, not_true_eq_false, not_false_eq_true, and_self, k0, r1, r2, r3, r5, r6, r7, r9, r10, r14, g3, h6]
    rw [hloc]
    exact h4 Q
theorem m_records (hR : mRep S V t g) (hG : gG g) : ∃ V', mRep S V' t (grec g) ∧ mOut V V' t ∧ ∀ Q : Option Value → xSh → xV → Prop, xC E mX5_records [.ref t] S V Q ↔ Q none S V' := by
  obtain ⟨W, h1, h2, _, h3⟩ := m_records2 (E := E) hR hG
  exact ⟨W, h1, h2, h3⟩
end MRP
