/-! ===== the reference: a text read ===== -/
def pch (g : pG) (i : Nat) : Nat := if i < gln g then gpd g i else 0
def pn0 (g : pG) (lo hi a : Nat) : Bool × Nat × Nat := if lo ≤ pch g a ∧ pch g a ≤ hi then (true, pch g a - lo, a + 1) else (false, 0, a)
def pn2 (g : pG) (a : Nat) : Bool × Nat × Nat :=
  if 48 ≤ pch g a ∧ pch g a ≤ 57 then (if 0 < pch g a - 48 ∧ (48 ≤ pch g (a + 1) ∧ pch g (a + 1) ≤ 57) then (true, 10 * (pch g a - 48) + (pch g (a + 1) - 48), a + 2) else (true, pch g a - 48, a + 1)) else (false, 0, a)
def pnb (g : pG) (a : Nat) : Bool × Nat × Nat :=
  if 49 ≤ pch g a ∧ pch g a ≤ 57 then (if 48 ≤ pch g (a + 1) ∧ pch g (a + 1) ≤ 57 then (if pch g a = 49 ∧ pch g (a + 1) ≤ 53 then (true, 10 + (pch g (a + 1) - 48), a + 2) else (false, 0, a + 1)) else (true, pch g a - 48, a + 1)) else (false, 0, a)
def pnum (g : pG) (k a : Nat) : Bool × Nat × Nat :=
  if k = 0 ∨ k = 5 then pn2 g a else if k = 1 then pn0 g 48 55 a else if k = 3 ∨ k = 4 then pn0 g 48 51 a else if k = 6 then pnb g a else (true, 0, a)
def pkd (c : Nat) : Option Nat := if c = 97 then some 0 else if c = 115 then some 1 else if c = 116 then some 2 else if c = 108 then some 3 else if c = 102 then some 4 else if c = 119 then some 5 else if c = 98 then some 6 else none
/-- commands read from a on, when m are there: a fault, how many, which -/
def prd (g : pG) : Nat → Nat → Nat → (Nat → Nat × Nat) → Option Nat × Nat × (Nat → Nat × Nat)
  | 0, a, m, f => (some a, m, f)
  | n + 1, a, m, f => match pkd (pch g a) with
    | none => (some a, m, f)
    | some k => if (pnum g k (a + 1)).1 = true then
        (if (pnum g k (a + 1)).2.2 < gln g then
          (if pch g (pnum g k (a + 1)).2.2 = 44 ∧ m + 1 < 16 then prd g n ((pnum g k (a + 1)).2.2 + 1) (m + 1) (fun i => if i = m then (k, (pnum g k (a + 1)).2.1) else f i)
          else (some (pnum g k (a + 1)).2.2, m + 1, fun i => if i = m then (k, (pnum g k (a + 1)).2.1) else f i))
        else (none, m + 1, fun i => if i = m then (k, (pnum g k (a + 1)).2.1) else f i))
      else (some (pnum g k (a + 1)).2.2, m, f)
def pparse (g : pG) : Option Nat × Nat × (Nat → Nat × Nat) :=
  if 48 ≤ pch g 0 ∧ pch g 0 ≤ 55 then (if pch g 1 = 58 then (if 2 < gln g then prd g 16 2 0 (fun _ => (0, 0)) else (none, 0, fun _ => (0, 0))) else (some 1, 0, fun _ => (0, 0))) else (some 0, 0, fun _ => (0, 0))
def pF (V W : xV) (t : Nat) : Prop := (∀ a, ¬ a = t → ¬ a = t + 9 → W a = V a) ∧ ∀ j, j < 11 → W t j = V t j
def pK (W W' : xV) (t : Nat) : Prop := W' t 13 = W t 13 ∧ W' t 15 = W t 15 ∧ W' (t + 9) = W (t + 9)
section MRD
variable {E : Nat × Nat × Nat} {S : xSh} {V W : xV} {Q : Option Value → xSh → xV → Prop} {t a : Nat} {g : pG}
theorem pF_r : pF V V t := ⟨fun _ _ _ => rfl, fun _ _ => rfl⟩
theorem pF_up {j : Nat} {v : Int32} (h : pF V W t) (hj : 11 ≤ j) : pF V (xup W t j v) t := ⟨fun a h1 h2 => by funext i; rw [xup_ne (by omega)]; exact congrFun (h.1 a h1 h2) i, fun k hk => by rw [xup_ne (by omega)]; exact h.2 k hk⟩
theorem pF_9 {j : Nat} {v : Int32} (h : pF V W t) : pF V (xup W (t + 9) j v) t := ⟨fun a h1 h2 => by funext i; rw [xup_ne (by omega)]; exact congrFun (h.1 a h1 h2) i, fun k hk => by rw [xup_ne (by omega)]; exact h.2 k hk⟩
theorem pF_rep (h : pF V W t) (hR : mRep S V t g) : mRep S W t g := by
  obtain ⟨g1, g2, g3, g4, g5, g6, g7, g8⟩ := hR
  have e : ∀ a, ¬ a = t → ¬ a = t + 9 → W a = V a := h.1
  exact ⟨g1, fun i => by rw [e _ (by omega) (by omega)]; exact g2 i, by rw [h.2 4 (by decide)]; exact g3, by rw [e (t + 3) (by omega) (by omega)]; exact g4, by rw [e (t + 5) (by omega) (by omega)]; exact g5, by rw [e (t + 4) (by omega) (by omega)]; exact g6, by rw [h.2 8 (by decide)]; exact g7, by rw [e (t + 6) (by omega) (by omega)]; exact g8⟩
theorem pF_out (h : pF V W t) : mOut V W t := fun a ha => h.1 a (by omega) (by omega)
theorem pch_lt (hG : gG g) (i : Nat) : pch g i ≤ 126 := by
  unfold pch
  split
  · exact (hG.2.2.2.2.2 i (by assumption)).2
  · exact Nat.zero_le _
theorem pch_end (hG : gG g) {i : Nat} (h : 0 < pch g i) : i < gln g ∧ i < 72 := by
  unfold pch at h
  split at h
  · have := hG.2.2.2.2.1; omega
  · omega
theorem s_sign (hR : mRep S V t g) (hG : gG g) (hF : pF V W t) (ha : W t 11 = nI a) (hs : a < 2147483648) : xC E mX5_sign [.ref t] S W Q ↔ Q (some (.int (nI (pch g a)))) S W := by
  obtain ⟨hS, hσ, g3, g4, g5, g6, g7, g8⟩ := hR
  have hS' := hS; obtain ⟨k0, r1, r2, r3, r5, r6, r7, r9, r10, r14, k1, n1, k2, n2, k3, n3, k4, n4, k5, n5, k6, n6, k7, n7, k8, n8, k9, n9⟩ := hS'
  have hl : W t 8 = nI (gln g) := by rw [hF.2 8 (by decide)]; exact g7
  have hp := fun i hi => (congrFun (hF.1 (t + 6) (by omega) (by omega)) i).trans (g8 i hi)
  have h72 := hG.2.2.2.2.1
  show xX E mX5_sign 0 [some (.ref t)] [] S W Q ↔ _
  unfold pch
  by_cases h : a < gln g
  · have h' : ¬ gln g ≤ a := by omega
    have hpa := hp a h
    rw [if_pos h]
    simp (disch := (first | assumption | exact xnl_i _ | exact xnl_r _ | exact xnl_n | exact Bool.toNat_lt _ | exact hb _ | exact hb2 _ | omega | exact Nat.le_of_ble_eq_true rfl | rfl | decide)) only [pX5_sign_0, pX5_sign_1, pX5_sign_4, pX5_sign_5, pX5_sign_8, pX5_sign_11, pX5_sign_12, pX5_sign_15, pX5_sign_16, pX5_sign_19, pX5_sign_20, pX5_sign_23, pX5_sign_24, nI_add, pk_mul, xn_sub, xn_and, xn_or, xn_xor, xn_shl, xn_shr, xn_lt, xn_le, xn_eq, xrf_some, xup_eq, xup_ne, xrow_eq, xrow_ne, Option.toList_some, Option.toList_none, List.singleton_append, List.nil_append, List.cons_append, xnl_n, xnl_i, xnl_r, Nat.zero_add, Nat.add_zero, ↓reduceIte, Nat.reduceEqDiff, Nat.reduceLeDiff, Nat.reduceAdd, Nat.reduceMul, Nat.reduceLT, Nat.one_ne_zero, eq_self, not_true_eq_false, not_false_eq_true, and_self, k0, r1, r2, r3, r5, r6, r7, r9, r10, r14, ha, hl, h', hpa]
  · have h' : gln g ≤ a := by omega
    rw [if_neg h]
    simp (disch := (first | assumption | exact xnl_i _ | exact xnl_r _ | exact xnl_n | exact Bool.toNat_lt _ | exact hb _ | exact hb2 _ | omega | exact Nat.le_of_ble_eq_true rfl | rfl | decide)) only [pX5_sign_0, pX5_sign_1, pX5_sign_4, pX5_sign_5, pX5_sign_8, pX5_sign_11, pX5_sign_12, pX5_sign_15, pX5_sign_16, pX5_sign_19, pX5_sign_20, pX5_sign_23, pX5_sign_24, nI_add, pk_mul, xn_sub, xn_and, xn_or, xn_xor, xn_shl, xn_shr, xn_lt, xn_le, xn_eq, xrf_some, xup_eq, xup_ne, xrow_eq, xrow_ne, Option.toList_some, Option.toList_none, List.singleton_append, List.nil_append, List.cons_append, xnl_n, xnl_i, xnl_r, Nat.zero_add, Nat.add_zero, ↓reduceIte, Nat.reduceEqDiff, Nat.reduceLeDiff, Nat.reduceAdd, Nat.reduceMul, Nat.reduceLT, Nat.one_ne_zero, eq_self, not_true_eq_false, not_false_eq_true, and_self, k0, r1, r2, r3, r5, r6, r7, r9, r10, r14, ha, hl, h']
theorem s_takesSign {lo hi : Nat} {w : Bool} (hR : mRep S V t g) (hG : gG g) (hF : pF V W t) (ha : W t 11 = nI a) (hs : a < 100) (hw : W t 12 = nI w.toNat) (hlo : lo < 128) (hhi : hi < 128) : ∃ W', pF V W' t ∧ pK W W' t ∧ W' t 12 = nI (w && (pn0 g lo hi a).1).toNat ∧ W' t 11 = nI (if w = true then (pn0 g lo hi a).2.2 else a) ∧ ∀ Q : Option Value → xSh → xV → Prop, xC E mX5_takesSign [.ref t, .int (nI lo), .int (nI hi)] S W Q ↔ Q (some (.int (nI (pch g a) - nI lo))) S W' := by
  have hS := hR.1
  have hS' := hS; obtain ⟨k0, r1, r2, r3, r5, r6, r7, r9, r10, r14, k1, n1, k2, n2, k3, n3, k4, n4, k5, n5, k6, n6, k7, n7, k8, n8, k9, n9⟩ := hS'
  have hb2 : ∀ i, pch g i < 2147483648 := fun i => Nat.lt_of_le_of_lt (pch_lt hG i) (by decide)
  have hsg := fun (W : xV) (hF : pF V W t) (ha : W t 11 = nI a) (Q : Option Value → xSh → xV → Prop) => s_sign (E := E) (Q := Q) hR hG hF ha (by omega)
  have hsW := hsg W hF ha
  cases w with
  | false =>
    have hw : W t 12 = nI 0 := hw
    have hF2 : pF V (xup W t 12 (nI 0)) t := pF_up hF (by decide)
    have ha2 : xup W t 12 (nI 0) t 11 = nI a := by rw [xup_ne (by omega)]; exact ha
    have hs2 := hsg _ hF2 ha2
    refine ⟨xup (xup W t 12 (nI 0)) t 11 (nI a), pF_up hF2 (by decide), ⟨by rw [xup_ne (by omega), xup_ne (by omega)], by rw [xup_ne (by omega), xup_ne (by omega)], by funext i; rw [xup_ne (by omega), xup_ne (by omega)]⟩, by rw [xup_ne (by omega), xup_eq]; rfl, by rw [xup_eq]; rfl, fun Q => ?_⟩
    show xX E mX5_takesSign 0 [some (.ref t), some (.int (nI lo)), some (.int (nI hi)), none] [] S W Q ↔ _
    simp (disch := (first | assumption | exact xnl_i _ | exact xnl_r _ | exact xnl_n | exact Bool.toNat_lt _ | exact hb _ | exact hb2 _ | omega | exact Nat.le_of_ble_eq_true rfl | rfl | decide)) only [pX5_takesSign_0, pX5_takesSign_1, pX5_takesSign_2, pX5_takesSign_5, pX5_takesSign_8, pX5_takesSign_9, pX5_takesSign_12, pX5_takesSign_13, pX5_takesSign_14, pX5_takesSign_17, pX5_takesSign_20, pX5_takesSign_21, pX5_takesSign_24, pX5_takesSign_25, pX5_takesSign_28, pX5_takesSign_29, pX5_takesSign_32, pX5_takesSign_33, pX5_takesSign_34, pX5_takesSign_35, pX5_takesSign_36, pX5_takesSign_36i, pX5_takesSign_37, pX5_takesSign_40, pX5_takesSign_41, pX5_takesSign_44, pX5_takesSign_47, pX5_takesSign_48, pX5_takesSign_51, pX5_takesSign_52, pX5_takesSign_53, pX5_takesSign_56, pX5_takesSign_57, nI_add, pk_mul, xn_sub, xn_and, xn_or, xn_xor, xn_shl, xn_shr, xn_lt, xn_le, xn_eq, xrf_some, xup_eq, xup_ne, xrow_eq, xrow_ne, Option.toList_some, Option.toList_none, List.singleton_append, List.nil_append, List.cons_append, xnl_n, xnl_i, xnl_r, Nat.zero_add, Nat.add_zero, ↓reduceIte, Nat.reduceEqDiff, Nat.reduceLeDiff, Nat.reduceAdd, Nat.reduceMul, Nat.reduceLT, Nat.one_ne_zero, eq_self, not_true_eq_false, not_false_eq_true, and_self, k0, r1, r2, r3, r5, r6, r7, r9, r10, r14, hw, hs2, ha]
  | true =>
    have hw : W t 12 = nI 1 := hw
    unfold pn0
    by_cases h : lo ≤ pch g a ∧ pch g a ≤ hi
    · have hF2 : pF V (xup W t 12 (nI 1)) t := pF_up hF (by decide)
      have ha2 : xup W t 12 (nI 1) t 11 = nI a := by rw [xup_ne (by omega)]; exact ha
      have hs2 := hsg _ hF2 ha2
      rw [if_pos h]
      refine ⟨xup (xup W t 12 (nI 1)) t 11 (nI (a + 1)), pF_up hF2 (by decide), ⟨by rw [xup_ne (by omega), xup_ne (by omega)], by rw [xup_ne (by omega), xup_ne (by omega)], by funext i; rw [xup_ne (by omega), xup_ne (by omega)]⟩, by rw [xup_ne (by omega), xup_eq]; rfl, by rw [xup_eq]; rfl, fun Q => ?_⟩
      show xX E mX5_takesSign 0 [some (.ref t), some (.int (nI lo)), some (.int (nI hi)), none] [] S W Q ↔ _
      simp (disch := (first | assumption | exact xnl_i _ | exact xnl_r _ | exact xnl_n | exact Bool.toNat_lt _ | exact hb _ | exact hb2 _ | omega | exact Nat.le_of_ble_eq_true rfl | rfl | decide)) only [pX5_takesSign_0, pX5_takesSign_1, pX5_takesSign_2, pX5_takesSign_5, pX5_takesSign_8, pX5_takesSign_9, pX5_takesSign_12, pX5_takesSign_13, pX5_takesSign_14, pX5_takesSign_17, pX5_takesSign_20, pX5_takesSign_21, pX5_takesSign_24, nI_add, pk_mul, xn_and, xn_or, xn_xor, xn_shl, xn_shr, xn_lt, xn_le, xn_eq, xrf_some, xup_eq, xup_ne, xrow_eq, xrow_ne, Option.toList_some, Option.toList_none, List.singleton_append, List.nil_append, List.cons_append, xnl_n, xnl_i, xnl_r, Nat.zero_add, Nat.add_zero, ↓reduceIte, Nat.reduceEqDiff, Nat.reduceLeDiff, Nat.reduceAdd, Nat.reduceMul, Nat.reduceLT, Nat.one_ne_zero, eq_self, not_true_eq_false, not_false_eq_true, and_self, k0, r1, r2, r3, r5, r6, r7, r9, r10, r14, hw, hsW, s_in, h]
      simp (disch := (first | assumption | exact xnl_i _ | exact xnl_r _ | exact xnl_n | exact Bool.toNat_lt _ | exact hb _ | exact hb2 _ | omega | exact Nat.le_of_ble_eq_true rfl | rfl | decide)) only [pX5_takesSign_25, pX5_takesSign_28, pX5_takesSign_29, pX5_takesSign_32, pX5_takesSign_33, pX5_takesSign_34, pX5_takesSign_35, pX5_takesSign_36, pX5_takesSign_36i, pX5_takesSign_37, pX5_takesSign_40, pX5_takesSign_41, pX5_takesSign_44, pX5_takesSign_47, pX5_takesSign_48, pX5_takesSign_51, pX5_takesSign_52, pX5_takesSign_53, pX5_takesSign_56, pX5_takesSign_57, nI_add, pk_mul, xn_and, xn_or, xn_xor, xn_shl, xn_shr, xn_lt, xn_le, xn_eq, xrf_some, xup_eq, xup_ne, xrow_eq, xrow_ne, Option.toList_some, Option.toList_none, List.singleton_append, List.nil_append, List.cons_append, xnl_n, xnl_i, xnl_r, Nat.zero_add, Nat.add_zero, ↓reduceIte, Nat.reduceEqDiff, Nat.reduceLeDiff, Nat.reduceAdd, Nat.reduceMul, Nat.reduceLT, Nat.one_ne_zero, eq_self, not_true_eq_false, not_false_eq_true, and_self, k0, r1, r2, r3, r5, r6, r7, r9, r10, r14, hs2, ha]
    · have hF2 : pF V (xup W t 12 (nI 0)) t := pF_up hF (by decide)
      have ha2 : xup W t 12 (nI 0) t 11 = nI a := by rw [xup_ne (by omega)]; exact ha
      have hs2 := hsg _ hF2 ha2
      rw [if_neg h]
      refine ⟨xup (xup W t 12 (nI 0)) t 11 (nI a), pF_up hF2 (by decide), ⟨by rw [xup_ne (by omega), xup_ne (by omega)], by rw [xup_ne (by omega), xup_ne (by omega)], by funext i; rw [xup_ne (by omega), xup_ne (by omega)]⟩, by rw [xup_ne (by omega), xup_eq]; rfl, by rw [xup_eq]; rfl, fun Q => ?_⟩
      show xX E mX5_takesSign 0 [some (.ref t), some (.int (nI lo)), some (.int (nI hi)), none] [] S W Q ↔ _
      simp (disch := (first | assumption | exact xnl_i _ | exact xnl_r _ | exact xnl_n | exact Bool.toNat_lt _ | exact hb _ | exact hb2 _ | omega | exact Nat.le_of_ble_eq_true rfl | rfl | decide)) only [pX5_takesSign_0, pX5_takesSign_1, pX5_takesSign_2, pX5_takesSign_5, pX5_takesSign_8, pX5_takesSign_9, pX5_takesSign_12, pX5_takesSign_13, pX5_takesSign_14, pX5_takesSign_17, pX5_takesSign_20, pX5_takesSign_21, pX5_takesSign_24, nI_add, pk_mul, xn_and, xn_or, xn_xor, xn_shl, xn_shr, xn_lt, xn_le, xn_eq, xrf_some, xup_eq, xup_ne, xrow_eq, xrow_ne, Option.toList_some, Option.toList_none, List.singleton_append, List.nil_append, List.cons_append, xnl_n, xnl_i, xnl_r, Nat.zero_add, Nat.add_zero, ↓reduceIte, Nat.reduceEqDiff, Nat.reduceLeDiff, Nat.reduceAdd, Nat.reduceMul, Nat.reduceLT, Nat.one_ne_zero, eq_self, not_true_eq_false, not_false_eq_true, and_self, k0, r1, r2, r3, r5, r6, r7, r9, r10, r14, hw, hsW, s_in, h]
      simp (disch := (first | assumption | exact xnl_i _ | exact xnl_r _ | exact xnl_n | exact Bool.toNat_lt _ | exact hb _ | exact hb2 _ | omega | exact Nat.le_of_ble_eq_true rfl | rfl | decide)) only [pX5_takesSign_25, pX5_takesSign_28, pX5_takesSign_29, pX5_takesSign_32, pX5_takesSign_33, pX5_takesSign_34, pX5_takesSign_35, pX5_takesSign_36, pX5_takesSign_36i, pX5_takesSign_37, pX5_takesSign_40, pX5_takesSign_41, pX5_takesSign_44, pX5_takesSign_47, pX5_takesSign_48, pX5_takesSign_51, pX5_takesSign_52, pX5_takesSign_53, pX5_takesSign_56, pX5_takesSign_57, nI_add, pk_mul, xn_and, xn_or, xn_xor, xn_shl, xn_shr, xn_lt, xn_le, xn_eq, xrf_some, xup_eq, xup_ne, xrow_eq, xrow_ne, Option.toList_some, Option.toList_none, List.singleton_append, List.nil_append, List.cons_append, xnl_n, xnl_i, xnl_r, Nat.zero_add, Nat.add_zero, ↓reduceIte, Nat.reduceEqDiff, Nat.reduceLeDiff, Nat.reduceAdd, Nat.reduceMul, Nat.reduceLT, Nat.one_ne_zero, eq_self, not_true_eq_false, not_false_eq_true, and_self, k0, r1, r2, r3, r5, r6, r7, r9, r10, r14, hs2, ha]
theorem s_number (hR : mRep S V t g) (hG : gG g) (hF : pF V W t) (ha : W t 11 = nI a) (hs : a < 99) (hw : W t 12 = nI 1) : ∃ W' r, pF V W' t ∧ pK W W' t ∧ W' t 12 = nI (pn2 g a).1.toNat ∧ W' t 11 = nI (pn2 g a).2.2 ∧ ((pn2 g a).1 = true → r = nI (pn2 g a).2.1) ∧ ∀ Q : Option Value → xSh → xV → Prop, xC E mX5_number [.ref t] S W Q ↔ Q (some (.int r)) S W' := by
  have hS := hR.1
  have hS' := hS; obtain ⟨k0, r1, r2, r3, r5, r6, r7, r9, r10, r14, k1, n1, k2, n2, k3, n3, k4, n4, k5, n5, k6, n6, k7, n7, k8, n8, k9, n9⟩ := hS'
  have hb2 : ∀ i, pch g i < 2147483648 := fun i => Nat.lt_of_le_of_lt (pch_lt hG i) (by decide)
  obtain ⟨W1, f1, k1', w1, a1, i1⟩ := s_takesSign (E := E) (lo := 48) (hi := 57) (w := true) hR hG hF ha (by omega) hw (by decide) (by decide)
  unfold pn2
  by_cases h : 48 ≤ pch g a ∧ pch g a ≤ 57
  · have e : pn0 g 48 57 a = (true, pch g a - 48, a + 1) := by unfold pn0; rw [if_pos h]
    rw [e] at w1 a1
    have w1 : W1 t 12 = nI 1 := w1
    have a1 : W1 t 11 = nI (a + 1) := a1
    have hsW := fun (Q : Option Value → xSh → xV → Prop) => s_sign (E := E) (Q := Q) hR hG f1 a1 (by omega)
    have hsub : nI (pch g a) - nI 48 = nI (pch g a - 48) := xn_sub h.1
    rw [if_pos h]
    by_cases h0 : 0 < pch g a - 48
    · have h0' : ¬ pch g a - 48 ≤ 0 := by omega
      by_cases h2 : 48 ≤ pch g (a + 1) ∧ pch g (a + 1) ≤ 57
      · obtain ⟨W2, f2, k2', w2, a2, i2⟩ := s_takesSign (E := E) (lo := 48) (hi := 57) (w := true) hR hG f1 a1 (by omega) w1 (by decide) (by decide)
        have e2 : pn0 g 48 57 (a + 1) = (true, pch g (a + 1) - 48, a + 1 + 1) := by unfold pn0; rw [if_pos h2]
        rw [e2] at w2 a2
        rw [if_pos ⟨h0, h2⟩]
        refine ⟨W2, _, f2, ⟨k2'.1.trans k1'.1, k2'.2.1.trans k1'.2.1, k2'.2.2.trans k1'.2.2⟩, w2, a2, fun _ => rfl, fun Q => ?_⟩
        have hsub2 : nI (pch g (a + 1)) - nI 48 = nI (pch g (a + 1) - 48) := xn_sub h2.1
        show xX E mX5_number 0 [some (.ref t), none] [] S W Q ↔ _
        simp (disch := (first | assumption | exact xnl_i _ | exact xnl_r _ | exact xnl_n | exact Bool.toNat_lt _ | exact hb _ | exact hb2 _ | omega | exact Nat.le_of_ble_eq_true rfl | rfl | decide)) only [pX5_number_0, pX5_number_1, pX5_number_3, pX5_number_5, pX5_number_8, pX5_number_9, pX5_number_10, pX5_number_13, pX5_number_16, pX5_number_17, pX5_number_20, pX5_number_21, pX5_number_24, pX5_number_26, pX5_number_28, pX5_number_31, pX5_number_34, pX5_number_36, pX5_number_37, pX5_number_38, pX5_number_39, pX5_number_41, pX5_number_43, pX5_number_46, pX5_number_47, pX5_number_48, pX5_number_49, nI_add, pk_mul, xn_sub, xn_and, xn_or, xn_xor, xn_shl, xn_shr, xn_lt, xn_le, xn_eq, xrf_some, xup_eq, xup_ne, xrow_eq, xrow_ne, Option.toList_some, Option.toList_none, List.singleton_append, List.nil_append, List.cons_append, xnl_n, xnl_i, xnl_r, Nat.zero_add, Nat.add_zero, ↓reduceIte, Nat.reduceEqDiff, Nat.reduceLeDiff, Nat.reduceAdd, Nat.reduceMul, Nat.reduceLT, Nat.one_ne_zero, eq_self, not_true_eq_false, not_false_eq_true, and_self, k0, r1, r2, r3, r5, r6, r7, r9, r10, r14, i1, w1, hsub, h0', hsW, s_in, h2, i2, hsub2]
      · rw [if_neg (fun z => h2 z.2)]
        refine ⟨W1, _, f1, k1', w1, a1, fun _ => rfl, fun Q => ?_⟩
        show xX E mX5_number 0 [some (.ref t), none] [] S W Q ↔ _
        simp (disch := (first | assumption | exact xnl_i _ | exact xnl_r _ | exact xnl_n | exact Bool.toNat_lt _ | exact hb _ | exact hb2 _ | omega | exact Nat.le_of_ble_eq_true rfl | rfl | decide)) only [pX5_number_0, pX5_number_1, pX5_number_3, pX5_number_5, pX5_number_8, pX5_number_9, pX5_number_10, pX5_number_13, pX5_number_16, pX5_number_17, pX5_number_20, pX5_number_21, pX5_number_24, pX5_number_26, pX5_number_28, pX5_number_31, pX5_number_34, pX5_number_36, pX5_number_37, pX5_number_38, pX5_number_39, pX5_number_41, pX5_number_43, pX5_number_46, pX5_number_47, pX5_number_48, pX5_number_49, nI_add, pk_mul, xn_sub, xn_and, xn_or, xn_xor, xn_shl, xn_shr, xn_lt, xn_le, xn_eq, xrf_some, xup_eq, xup_ne, xrow_eq, xrow_ne, Option.toList_some, Option.toList_none, List.singleton_append, List.nil_append, List.cons_append, xnl_n, xnl_i, xnl_r, Nat.zero_add, Nat.add_zero, ↓reduceIte, Nat.reduceEqDiff, Nat.reduceLeDiff, Nat.reduceAdd, Nat.reduceMul, Nat.reduceLT, Nat.one_ne_zero, eq_self, not_true_eq_false, not_false_eq_true, and_self, k0, r1, r2, r3, r5, r6, r7, r9, r10, r14, i1, w1, hsub, h0', hsW, s_in, h2]
    · have h0' : pch g a - 48 ≤ 0 := by omega
      rw [if_neg (fun z => h0 z.1)]
      refine ⟨W1, _, f1, k1', w1, a1, fun _ => rfl, fun Q => ?_⟩
      show xX E mX5_number 0 [some (.ref t), none] [] S W Q ↔ _
      simp (disch := (first | assumption | exact xnl_i _ | exact xnl_r _ | exact xnl_n | exact Bool.toNat_lt _ | exact hb _ | exact hb2 _ | omega | exact Nat.le_of_ble_eq_true rfl | rfl | decide)) only [pX5_number_0, pX5_number_1, pX5_number_3, pX5_number_5, pX5_number_8, pX5_number_9, pX5_number_10, pX5_number_13, pX5_number_16, pX5_number_17, pX5_number_20, pX5_number_21, pX5_number_24, pX5_number_26, pX5_number_28, pX5_number_31, pX5_number_34, pX5_number_36, pX5_number_37, pX5_number_38, pX5_number_39, pX5_number_41, pX5_number_43, pX5_number_46, pX5_number_47, pX5_number_48, pX5_number_49, nI_add, pk_mul, xn_sub, xn_and, xn_or, xn_xor, xn_shl, xn_shr, xn_lt, xn_le, xn_eq, xrf_some, xup_eq, xup_ne, xrow_eq, xrow_ne, Option.toList_some, Option.toList_none, List.singleton_append, List.nil_append, List.cons_append, xnl_n, xnl_i, xnl_r, Nat.zero_add, Nat.add_zero, ↓reduceIte, Nat.reduceEqDiff, Nat.reduceLeDiff, Nat.reduceAdd, Nat.reduceMul, Nat.reduceLT, Nat.one_ne_zero, eq_self, not_true_eq_false, not_false_eq_true, and_self, k0, r1, r2, r3, r5, r6, r7, r9, r10, r14, i1, w1, hsub, h0']
  · have e : pn0 g 48 57 a = (false, 0, a) := by unfold pn0; rw [if_neg h]
    rw [e] at w1 a1
    have w1 : W1 t 12 = nI 0 := w1
    rw [if_neg h]
    refine ⟨W1, nI (pch g a) - nI 48, f1, k1', w1, a1, fun z => Bool.noConfusion (show false = true from z), fun Q => ?_⟩
    show xX E mX5_number 0 [some (.ref t), none] [] S W Q ↔ _
    simp (disch := (first | assumption | exact xnl_i _ | exact xnl_r _ | exact xnl_n | exact Bool.toNat_lt _ | exact hb _ | exact hb2 _ | omega | exact Nat.le_of_ble_eq_true rfl | rfl | decide)) only [pX5_number_0, pX5_number_1, pX5_number_3, pX5_number_5, pX5_number_8, pX5_number_9, pX5_number_10, pX5_number_13, pX5_number_16, pX5_number_17, pX5_number_20, pX5_number_21, pX5_number_24, pX5_number_26, pX5_number_28, pX5_number_31, pX5_number_34, pX5_number_36, pX5_number_37, pX5_number_38, pX5_number_39, pX5_number_41, pX5_number_43, pX5_number_46, pX5_number_47, pX5_number_48, pX5_number_49, nI_add, pk_mul, xn_and, xn_or, xn_xor, xn_shl, xn_shr, xn_lt, xn_le, xn_eq, xrf_some, xup_eq, xup_ne, xrow_eq, xrow_ne, Option.toList_some, Option.toList_none, List.singleton_append, List.nil_append, List.cons_append, xnl_n, xnl_i, xnl_r, Nat.zero_add, Nat.add_zero, ↓reduceIte, Nat.reduceEqDiff, Nat.reduceLeDiff, Nat.reduceAdd, Nat.reduceMul, Nat.reduceLT, Nat.one_ne_zero, eq_self, not_true_eq_false, not_false_eq_true, and_self, k0, r1, r2, r3, r5, r6, r7, r9, r10, r14, i1, w1]
theorem s_numberOfBack (hR : mRep S V t g) (hG : gG g) (hF : pF V W t) (ha : W t 11 = nI a) (hs : a < 99) (hw : W t 12 = nI 1) : ∃ W' r, pF V W' t ∧ pK W W' t ∧ W' t 12 = nI (pnb g a).1.toNat ∧ W' t 11 = nI (pnb g a).2.2 ∧ ((pnb g a).1 = true → r = nI (pnb g a).2.1) ∧ ∀ Q : Option Value → xSh → xV → Prop, xC E mX5_numberOfBack [.ref t] S W Q ↔ Q (some (.int r)) S W' := by
  have hS := hR.1
  have hS' := hS; obtain ⟨k0, r1, r2, r3, r5, r6, r7, r9, r10, r14, k1, n1, k2, n2, k3, n3, k4, n4, k5, n5, k6, n6, k7, n7, k8, n8, k9, n9⟩ := hS'
  have hb2 : ∀ i, pch g i < 2147483648 := fun i => Nat.lt_of_le_of_lt (pch_lt hG i) (by decide)
  obtain ⟨W1, f1, k1', w1, a1, i1⟩ := s_takesSign (E := E) (lo := 49) (hi := 57) (w := true) hR hG hF ha (by omega) hw (by decide) (by decide)
  unfold pnb
  by_cases h : 49 ≤ pch g a ∧ pch g a ≤ 57
  · have e : pn0 g 49 57 a = (true, pch g a - 49, a + 1) := by unfold pn0; rw [if_pos h]
    rw [e] at w1 a1
    have w1 : W1 t 12 = nI 1 := w1
    have a1 : W1 t 11 = nI (a + 1) := a1
    have hsW := fun (Q : Option Value → xSh → xV → Prop) => s_sign (E := E) (Q := Q) hR hG f1 a1 (by omega)
    have hsub : nI (pch g a) - nI 49 = nI (pch g a - 49) := xn_sub h.1
    have hadd : pch g a - 49 + 1 = pch g a - 48 := by omega
    rw [if_pos h]
    by_cases h2 : 48 ≤ pch g (a + 1) ∧ pch g (a + 1) ≤ 57
    · rw [if_pos h2]
      have hsub2 : nI (pch g (a + 1)) - nI 48 = nI (pch g (a + 1) - 48) := xn_sub h2.1
      by_cases h49 : pch g a = 49
      · have h481 : pch g a - 48 = 1 := by omega
        obtain ⟨W2, f2, k2', w2, a2, i2⟩ := s_takesSign (E := E) (lo := 48) (hi := 53) (w := true) hR hG f1 a1 (by omega) w1 (by decide) (by decide)
        by_cases h53 : pch g (a + 1) ≤ 53
        · have e2 : pn0 g 48 53 (a + 1) = (true, pch g (a + 1) - 48, a + 1 + 1) := by unfold pn0; rw [if_pos ⟨h2.1, h53⟩]
          rw [e2] at w2 a2
          rw [if_pos ⟨h49, h53⟩]
          refine ⟨W2, _, f2, ⟨k2'.1.trans k1'.1, k2'.2.1.trans k1'.2.1, k2'.2.2.trans k1'.2.2⟩, w2, a2, fun _ => rfl, fun Q => ?_⟩
          show xX E mX5_numberOfBack 0 [some (.ref t), none] [] S W Q ↔ _
          simp (disch := (first | assumption | exact xnl_i _ | exact xnl_r _ | exact xnl_n | exact Bool.toNat_lt _ | exact hb _ | exact hb2 _ | omega | exact Nat.le_of_ble_eq_true rfl | rfl | decide)) only [pX5_numberOfBack_0, pX5_numberOfBack_1, pX5_numberOfBack_3, pX5_numberOfBack_5, pX5_numberOfBack_8, pX5_numberOfBack_9, pX5_numberOfBack_10, pX5_numberOfBack_11, pX5_numberOfBack_12, pX5_numberOfBack_15, pX5_numberOfBack_18, pX5_numberOfBack_19, pX5_numberOfBack_22, pX5_numberOfBack_24, pX5_numberOfBack_26, pX5_numberOfBack_29, pX5_numberOfBack_32, pX5_numberOfBack_34, pX5_numberOfBack_35, pX5_numberOfBack_36, pX5_numberOfBack_37, pX5_numberOfBack_39, pX5_numberOfBack_40, pX5_numberOfBack_41, pX5_numberOfBack_44, pX5_numberOfBack_46, pX5_numberOfBack_49, pX5_numberOfBack_51, pX5_numberOfBack_54, pX5_numberOfBack_55, pX5_numberOfBack_56, pX5_numberOfBack_57, nI_add, pk_mul, xn_sub, xn_and, xn_or, xn_xor, xn_shl, xn_shr, xn_lt, xn_le, xn_eq, xrf_some, xup_eq, xup_ne, xrow_eq, xrow_ne, Option.toList_some, Option.toList_none, List.singleton_append, List.nil_append, List.cons_append, xnl_n, xnl_i, xnl_r, Nat.zero_add, Nat.add_zero, ↓reduceIte, Nat.reduceEqDiff, Nat.reduceLeDiff, Nat.reduceAdd, Nat.reduceMul, Nat.reduceLT, Nat.one_ne_zero, eq_self, not_true_eq_false, not_false_eq_true, and_self, k0, r1, r2, r3, r5, r6, r7, r9, r10, r14, i1, w1, hsub, hadd, h481, hsW, s_in, h2, i2, hsub2]
        · have e2 : pn0 g 48 53 (a + 1) = (false, 0, a + 1) := by unfold pn0; rw [if_neg (fun z => h53 z.2)]
          rw [e2] at w2 a2
          rw [if_neg (fun z => h53 z.2)]
          refine ⟨W2, nI (10 * (pch g a - 48) + (pch g (a + 1) - 48)), f2, ⟨k2'.1.trans k1'.1, k2'.2.1.trans k1'.2.1, k2'.2.2.trans k1'.2.2⟩, w2, a2, fun z => Bool.noConfusion (show false = true from z), fun Q => ?_⟩
          show xX E mX5_numberOfBack 0 [some (.ref t), none] [] S W Q ↔ _
          simp (disch := (first | assumption | exact xnl_i _ | exact xnl_r _ | exact xnl_n | exact Bool.toNat_lt _ | exact hb _ | exact hb2 _ | omega | exact Nat.le_of_ble_eq_true rfl | rfl | decide)) only [pX5_numberOfBack_0, pX5_numberOfBack_1, pX5_numberOfBack_3, pX5_numberOfBack_5, pX5_numberOfBack_8, pX5_numberOfBack_9, pX5_numberOfBack_10, pX5_numberOfBack_11, pX5_numberOfBack_12, pX5_numberOfBack_15, pX5_numberOfBack_18, pX5_numberOfBack_19, pX5_numberOfBack_22, pX5_numberOfBack_24, pX5_numberOfBack_26, pX5_numberOfBack_29, pX5_numberOfBack_32, pX5_numberOfBack_34, pX5_numberOfBack_35, pX5_numberOfBack_36, pX5_numberOfBack_37, pX5_numberOfBack_39, pX5_numberOfBack_40, pX5_numberOfBack_41, pX5_numberOfBack_44, pX5_numberOfBack_46, pX5_numberOfBack_49, pX5_numberOfBack_51, pX5_numberOfBack_54, pX5_numberOfBack_55, pX5_numberOfBack_56, pX5_numberOfBack_57, nI_add, pk_mul, xn_sub, xn_and, xn_or, xn_xor, xn_shl, xn_shr, xn_lt, xn_le, xn_eq, xrf_some, xup_eq, xup_ne, xrow_eq, xrow_ne, Option.toList_some, Option.toList_none, List.singleton_append, List.nil_append, List.cons_append, xnl_n, xnl_i, xnl_r, Nat.zero_add, Nat.add_zero, ↓reduceIte, Nat.reduceEqDiff, Nat.reduceLeDiff, Nat.reduceAdd, Nat.reduceMul, Nat.reduceLT, Nat.one_ne_zero, eq_self, not_true_eq_false, not_false_eq_true, and_self, k0, r1, r2, r3, r5, r6, r7, r9, r10, r14, i1, w1, hsub, hadd, h481, hsW, s_in, h2, i2, hsub2]
      · have h481 : ¬ pch g a - 48 = 1 := by omega
        obtain ⟨W2, f2, k2', w2, a2, i2⟩ := s_takesSign (E := E) (lo := 48) (hi := 47) (w := true) hR hG f1 a1 (by omega) w1 (by decide) (by decide)
        have e2 : pn0 g 48 47 (a + 1) = (false, 0, a + 1) := by unfold pn0; rw [if_neg (fun z => by omega)]
        rw [e2] at w2 a2
        rw [if_neg (fun z => h49 z.1)]
        refine ⟨W2, nI (10 * (pch g a - 48) + (pch g (a + 1) - 48)), f2, ⟨k2'.1.trans k1'.1, k2'.2.1.trans k1'.2.1, k2'.2.2.trans k1'.2.2⟩, w2, a2, fun z => Bool.noConfusion (show false = true from z), fun Q => ?_⟩
        have hb48 : pch g a - 48 < 2147483648 := by have := hb2 a; omega
        show xX E mX5_numberOfBack 0 [some (.ref t), none] [] S W Q ↔ _
        simp (disch := (first | assumption | exact xnl_i _ | exact xnl_r _ | exact xnl_n | exact Bool.toNat_lt _ | exact hb _ | exact hb2 _ | omega | exact Nat.le_of_ble_eq_true rfl | rfl | decide)) only [pX5_numberOfBack_0, pX5_numberOfBack_1, pX5_numberOfBack_3, pX5_numberOfBack_5, pX5_numberOfBack_8, pX5_numberOfBack_9, pX5_numberOfBack_10, pX5_numberOfBack_11, pX5_numberOfBack_12, pX5_numberOfBack_15, pX5_numberOfBack_18, pX5_numberOfBack_19, pX5_numberOfBack_22, pX5_numberOfBack_24, pX5_numberOfBack_26, pX5_numberOfBack_29, pX5_numberOfBack_32, pX5_numberOfBack_34, pX5_numberOfBack_35, pX5_numberOfBack_36, pX5_numberOfBack_37, pX5_numberOfBack_39, pX5_numberOfBack_40, pX5_numberOfBack_41, pX5_numberOfBack_44, pX5_numberOfBack_46, pX5_numberOfBack_49, pX5_numberOfBack_51, pX5_numberOfBack_54, pX5_numberOfBack_55, pX5_numberOfBack_56, pX5_numberOfBack_57, nI_add, pk_mul, xn_sub, xn_and, xn_or, xn_xor, xn_shl, xn_shr, xn_lt, xn_le, xn_eq, xrf_some, xup_eq, xup_ne, xrow_eq, xrow_ne, Option.toList_some, Option.toList_none, List.singleton_append, List.nil_append, List.cons_append, xnl_n, xnl_i, xnl_r, Nat.zero_add, Nat.add_zero, ↓reduceIte, Nat.reduceEqDiff, Nat.reduceLeDiff, Nat.reduceAdd, Nat.reduceMul, Nat.reduceLT, Nat.one_ne_zero, eq_self, not_true_eq_false, not_false_eq_true, and_self, k0, r1, r2, r3, r5, r6, r7, r9, r10, r14, i1, w1, hsub, hadd, h481, hsW, s_in, h2, i2, hsub2]
    · rw [if_neg h2]
      refine ⟨W1, _, f1, k1', w1, a1, fun _ => rfl, fun Q => ?_⟩
      show xX E mX5_numberOfBack 0 [some (.ref t), none] [] S W Q ↔ _
      simp (disch := (first | assumption | exact xnl_i _ | exact xnl_r _ | exact xnl_n | exact Bool.toNat_lt _ | exact hb _ | exact hb2 _ | omega | exact Nat.le_of_ble_eq_true rfl | rfl | decide)) only [pX5_numberOfBack_0, pX5_numberOfBack_1, pX5_numberOfBack_3, pX5_numberOfBack_5, pX5_numberOfBack_8, pX5_numberOfBack_9, pX5_numberOfBack_10, pX5_numberOfBack_11, pX5_numberOfBack_12, pX5_numberOfBack_15, pX5_numberOfBack_18, pX5_numberOfBack_19, pX5_numberOfBack_22, pX5_numberOfBack_24, pX5_numberOfBack_26, pX5_numberOfBack_29, pX5_numberOfBack_32, pX5_numberOfBack_34, pX5_numberOfBack_35, pX5_numberOfBack_36, pX5_numberOfBack_37, pX5_numberOfBack_39, pX5_numberOfBack_40, pX5_numberOfBack_41, pX5_numberOfBack_44, pX5_numberOfBack_46, pX5_numberOfBack_49, pX5_numberOfBack_51, pX5_numberOfBack_54, pX5_numberOfBack_55, pX5_numberOfBack_56, pX5_numberOfBack_57, nI_add, pk_mul, xn_sub, xn_and, xn_or, xn_xor, xn_shl, xn_shr, xn_lt, xn_le, xn_eq, xrf_some, xup_eq, xup_ne, xrow_eq, xrow_ne, Option.toList_some, Option.toList_none, List.singleton_append, List.nil_append, List.cons_append, xnl_n, xnl_i, xnl_r, Nat.zero_add, Nat.add_zero, ↓reduceIte, Nat.reduceEqDiff, Nat.reduceLeDiff, Nat.reduceAdd, Nat.reduceMul, Nat.reduceLT, Nat.one_ne_zero, eq_self, not_true_eq_false, not_false_eq_true, and_self, k0, r1, r2, r3, r5, r6, r7, r9, r10, r14, i1, w1, hsub, hadd, hsW, s_in, h2]
  · have e : pn0 g 49 57 a = (false, 0, a) := by unfold pn0; rw [if_neg h]
    rw [e] at w1 a1
    have w1 : W1 t 12 = nI 0 := w1
    rw [if_neg h]
    refine ⟨W1, nI (pch g a) - nI 49 + nI 1, f1, k1', w1, a1, fun z => Bool.noConfusion (show false = true from z), fun Q => ?_⟩
    show xX E mX5_numberOfBack 0 [some (.ref t), none] [] S W Q ↔ _
    simp (disch := (first | assumption | exact xnl_i _ | exact xnl_r _ | exact xnl_n | exact Bool.toNat_lt _ | exact hb _ | exact hb2 _ | omega | exact Nat.le_of_ble_eq_true rfl | rfl | decide)) only [pX5_numberOfBack_0, pX5_numberOfBack_1, pX5_numberOfBack_3, pX5_numberOfBack_5, pX5_numberOfBack_8, pX5_numberOfBack_9, pX5_numberOfBack_10, pX5_numberOfBack_11, pX5_numberOfBack_12, pX5_numberOfBack_15, pX5_numberOfBack_18, pX5_numberOfBack_19, pX5_numberOfBack_22, pX5_numberOfBack_24, pX5_numberOfBack_26, pX5_numberOfBack_29, pX5_numberOfBack_32, pX5_numberOfBack_34, pX5_numberOfBack_35, pX5_numberOfBack_36, pX5_numberOfBack_37, pX5_numberOfBack_39, pX5_numberOfBack_40, pX5_numberOfBack_41, pX5_numberOfBack_44, pX5_numberOfBack_46, pX5_numberOfBack_49, pX5_numberOfBack_51, pX5_numberOfBack_54, pX5_numberOfBack_55, pX5_numberOfBack_56, pX5_numberOfBack_57, nI_add, pk_mul, xn_and, xn_or, xn_xor, xn_shl, xn_shr, xn_lt, xn_le, xn_eq, xrf_some, xup_eq, xup_ne, xrow_eq, xrow_ne, Option.toList_some, Option.toList_none, List.singleton_append, List.nil_append, List.cons_append, xnl_n, xnl_i, xnl_r, Nat.zero_add, Nat.add_zero, ↓reduceIte, Nat.reduceEqDiff, Nat.reduceLeDiff, Nat.reduceAdd, Nat.reduceMul, Nat.reduceLT, Nat.one_ne_zero, eq_self, not_true_eq_false, not_false_eq_true, and_self, k0, r1, r2, r3, r5, r6, r7, r9, r10, r14, i1, w1]
theorem s_commandBy {c : Nat} (hc : c ≤ 126) : xC E mX5_commandBy [.int (nI c)] S V Q ↔ Q (some (.int (rv (pkd c)))) S V := by
  show xX E mX5_commandBy 0 [some (.int (nI c))] [] S V Q ↔ _
  by_cases h : c = 97 ∨ c = 102 ∨ c = 108 ∨ c = 115 ∨ c = 116 ∨ c = 119
  · rcases h with rfl | rfl | rfl | rfl | rfl | rfl <;> simp (disch := (first | assumption | exact xnl_i _ | exact xnl_r _ | exact xnl_n | exact Bool.toNat_lt _ | exact hb _ | exact hb2 _ | omega | exact Nat.le_of_ble_eq_true rfl | rfl | decide)) only [pX5_commandBy_0, pX5_commandBy_1_k97, pX5_commandBy_1_k102, pX5_commandBy_1_k108, pX5_commandBy_1_k115, pX5_commandBy_1_k116, pX5_commandBy_1_k119, pX5_commandBy_1_d, pX5_commandBy_60, pX5_commandBy_61, pX5_commandBy_62, pX5_commandBy_63, pX5_commandBy_64, pX5_commandBy_65, pX5_commandBy_66, pX5_commandBy_67, pX5_commandBy_68, pX5_commandBy_69, pX5_commandBy_70, pX5_commandBy_71, pX5_commandBy_72, pX5_commandBy_73, pX5_commandBy_75, pX5_commandBy_78, pX5_commandBy_80, pX5_commandBy_83, pX5_commandBy_85, nI_add, pk_mul, xn_sub, xn_and, xn_or, xn_xor, xn_shl, xn_shr, xn_lt, xn_le, xn_eq, xrf_some, xup_eq, xup_ne, xrow_eq, xrow_ne, Option.toList_some, Option.toList_none, List.singleton_append, List.nil_append, List.cons_append, xnl_n, xnl_i, xnl_r, Nat.zero_add, Nat.add_zero, ↓reduceIte, Nat.reduceEqDiff, Nat.reduceLeDiff, Nat.reduceAdd, Nat.reduceMul, Nat.reduceLT, Nat.one_ne_zero, eq_self, not_true_eq_false, not_false_eq_true, and_self] <;> rfl
  · have h97 : ¬ c = 97 := by omega
    have h102 : ¬ c = 102 := by omega
    have h108 : ¬ c = 108 := by omega
    have h115 : ¬ c = 115 := by omega
    have h116 : ¬ c = 116 := by omega
    have h119 : ¬ c = 119 := by omega
    unfold pkd
    rw [if_neg h97, if_neg h115, if_neg h116, if_neg h108, if_neg h102, if_neg h119]
    by_cases h98 : c = 98
    · rw [if_pos h98]
      simp (disch := (first | assumption | exact xnl_i _ | exact xnl_r _ | exact xnl_n | exact Bool.toNat_lt _ | exact hb _ | exact hb2 _ | omega | exact Nat.le_of_ble_eq_true rfl | rfl | decide)) only [pX5_commandBy_0, pX5_commandBy_1_k97, pX5_commandBy_1_k102, pX5_commandBy_1_k108, pX5_commandBy_1_k115, pX5_commandBy_1_k116, pX5_commandBy_1_k119, pX5_commandBy_1_d, pX5_commandBy_60, pX5_commandBy_61, pX5_commandBy_62, pX5_commandBy_63, pX5_commandBy_64, pX5_commandBy_65, pX5_commandBy_66, pX5_commandBy_67, pX5_commandBy_68, pX5_commandBy_69, pX5_commandBy_70, pX5_commandBy_71, pX5_commandBy_72, pX5_commandBy_73, pX5_commandBy_75, pX5_commandBy_78, pX5_commandBy_80, pX5_commandBy_83, pX5_commandBy_85, nI_add, pk_mul, xn_sub, xn_and, xn_or, xn_xor, xn_shl, xn_shr, xn_lt, xn_le, xn_eq, xrf_some, xup_eq, xup_ne, xrow_eq, xrow_ne, Option.toList_some, Option.toList_none, List.singleton_append, List.nil_append, List.cons_append, xnl_n, xnl_i, xnl_r, Nat.zero_add, Nat.add_zero, ↓reduceIte, Nat.reduceEqDiff, Nat.reduceLeDiff, Nat.reduceAdd, Nat.reduceMul, Nat.reduceLT, Nat.one_ne_zero, eq_self, not_true_eq_false, not_false_eq_true, and_self, h98, h97, h102, h108, h115, h116, h119]
      rfl
    · rw [if_neg h98]
      simp (disch := (first | assumption | exact xnl_i _ | exact xnl_r _ | exact xnl_n | exact Bool.toNat_lt _ | exact hb _ | exact hb2 _ | omega | exact Nat.le_of_ble_eq_true rfl | rfl | decide)) only [pX5_commandBy_0, pX5_commandBy_1_k97, pX5_commandBy_1_k102, pX5_commandBy_1_k108, pX5_commandBy_1_k115, pX5_commandBy_1_k116, pX5_commandBy_1_k119, pX5_commandBy_1_d, pX5_commandBy_60, pX5_commandBy_61, pX5_commandBy_62, pX5_commandBy_63, pX5_commandBy_64, pX5_commandBy_65, pX5_commandBy_66, pX5_commandBy_67, pX5_commandBy_68, pX5_commandBy_69, pX5_commandBy_70, pX5_commandBy_71, pX5_commandBy_72, pX5_commandBy_73, pX5_commandBy_75, pX5_commandBy_78, pX5_commandBy_80, pX5_commandBy_83, pX5_commandBy_85, nI_add, pk_mul, xn_sub, xn_and, xn_or, xn_xor, xn_shl, xn_shr, xn_lt, xn_le, xn_eq, xrf_some, xup_eq, xup_ne, xrow_eq, xrow_ne, Option.toList_some, Option.toList_none, List.singleton_append, List.nil_append, List.cons_append, xnl_n, xnl_i, xnl_r, Nat.zero_add, Nat.add_zero, ↓reduceIte, Nat.reduceEqDiff, Nat.reduceLeDiff, Nat.reduceAdd, Nat.reduceMul, Nat.reduceLT, Nat.one_ne_zero, eq_self, not_true_eq_false, not_false_eq_true, and_self, h98, h97, h102, h108, h115, h116, h119]
      rfl
end MRD
