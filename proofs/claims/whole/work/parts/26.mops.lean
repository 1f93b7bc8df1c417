/-! ===== the reference: its small calls ===== -/
def pokb (k n : Nat) : Bool := decide ((k = 0 ∧ n ≤ 99) ∨ (k = 1 ∧ n ≤ 7) ∨ (k = 2 ∧ n = 0) ∨ (k = 3 ∧ n ≤ 3) ∨ (k = 4 ∧ n ≤ 3) ∨ (k = 5 ∧ n ≤ 99) ∨ (k = 6 ∧ 1 ≤ n ∧ n ≤ 15))
theorem pokb_iff {k n : Nat} : pokb k n = true ↔ pok k n := decide_eq_true_iff
def pargB (b c : Int32) : Bool := decide (nI 0 ≤ b ∧ b ≤ nI 6) && (decide (nI 0 ≤ c ∧ c ≤ nI 99) && pokb (ix b) (ix c))
def pappend (σ : Nat → Nat) (c k n : Nat) : Nat → Nat := su (su (su (su σ (62 * c + (14 + 3 * σ (62 * c))) k) (62 * c + (14 + 3 * σ (62 * c) + 1)) n) (62 * c + (14 + 3 * σ (62 * c) + 2)) 0) (62 * c) (σ (62 * c) + 1)
def padd (g : pG) (a b c : Int32) : pR := if nI 0 ≤ a ∧ a ≤ nI 7 then (if pargB b c = true then (if gσ g (62 * ix a) = 16 then (-4, g) else (nI (gσ g (62 * ix a) + 1), gset (grec g) (pappend (gσ g) (ix a) (ix b) (ix c)))) else (-2, g)) else (-1, g)
def pprefer (g : pG) (a b : Int32) : pR := if nI 0 ≤ a ∧ a ≤ nI 7 then (if nI 0 ≤ b ∧ b ≤ nI 9 then (nI (gσ g (62 * ix a + 3)), gset (grec g) (su (gσ g) (62 * ix a + 3) (ix b))) else (-2, g)) else (-1, g)
def ppost (g : pG) (a b : Int32) : pR := if nI 0 ≤ a ∧ a ≤ nI 7 then (if nI 0 ≤ b ∧ b ≤ nI 999 then (if gσ g (62 * ix a + 4) = 4 then (-4, g) else (nI (gσ g (62 * ix a + 4) + 1), gset (grec g) (precv (gσ g) (ix a) (ix b)))) else (-2, g)) else (-1, g)
def prelease (g : pG) (a : Int32) : pR := if nI 0 ≤ a ∧ a ≤ nI 3 then (if gσ g (497 + ix a) = 0 then (-5, g) else (nI (gσ g (497 + ix a) - 1), gset (grec g) (su (gσ g) (497 + ix a) 0))) else (-1, g)
def pcommand (g : pG) (a b c : Int32) : pR := if nI 0 ≤ a ∧ a ≤ nI 7 then (if nI 0 ≤ b ∧ b < nI (gσ g (62 * ix a)) then (if nI 0 ≤ c ∧ c ≤ nI 2 then (nI (gσ g (62 * ix a + (14 + 3 * ix b + ix c))), g) else (-2, g)) else (-1, g)) else (-1, g)
def pinbox (g : pG) (a b : Int32) : pR := if nI 0 ≤ a ∧ a ≤ nI 7 then (if nI 0 ≤ b ∧ b < nI (gσ g (62 * ix a + 4)) then (nI (gσ g (62 * ix a + (5 + ix b))), g) else (-1, g)) else (-1, g)
def pholder (g : pG) (a : Int32) : pR := if nI 0 ≤ a ∧ a ≤ nI 3 then (if gσ g (497 + ix a) = 0 then (-6, g) else (nI (gσ g (497 + ix a) - 1), g)) else (-1, g)
def pofv (σ : Nat → Nat) (c w : Nat) : Nat :=
  if w = 0 then σ (62 * c) else if w = 1 then σ (62 * c + 1) else if w = 2 then σ (62 * c + 2) else if w = 3 then σ (62 * c + 3) else if w = 4 then plent σ c else if w = 5 then σ (62 * c + 4) else if w = 6 then σ (62 * c + 9) else if w = 7 then pst σ c else if w = 8 then pwait σ c else if w = 9 then (if (pfar σ c).testBit c = true then 1 else 0) else σ (62 * c + w)
def pof (g : pG) (a b : Int32) : pR := if nI 0 ≤ a ∧ a ≤ nI 7 then (if nI 0 ≤ b ∧ b ≤ nI 13 then (nI (pofv (gσ g) (ix a) (ix b)), g) else (-2, g)) else (-1, g)
def pcountv (g : pG) (w : Nat) : Int32 :=
  if w = 0 then nI (gσ g 496) else if w = 1 then nI (pcnt (pin (gσ g) 0) 8) else if w = 2 then nI (pin (gσ g) 1) else if w = 3 then nI (prings (gσ g)) else if w = 4 then nI (pstuck (gσ g)).toNat else if w = 5 then nI (psum (gσ g) 13 8) else if w = 6 then nI (psum (gσ g) 12 8) else if w = 7 then rv (pslotR (gσ g)) else if w = 8 then nI (gln g) else nI (gu g)
def pcount (g : pG) (a : Int32) : pR := if nI 0 ≤ a ∧ a ≤ nI 9 then (pcountv g (ix a), g) else (-2, g)
def pwipe (g : pG) : pR := (nI (gln g), gput g 0 (gpd g))
theorem xidx (v : Int32) (n : Nat) (hn : n < 2147483648) : (∃ c, c < n ∧ v = nI c) ∨ ¬ (nI 0 ≤ v ∧ v < nI n) := by
  by_cases h : nI 0 ≤ v ∧ v < nI n
  · left
    obtain ⟨h1, h2⟩ := h
    rw [Int32.le_iff_toInt_le, xn_toInt (by omega)] at h1
    rw [Int32.lt_iff_toInt_lt, xn_toInt (by omega)] at h2
    refine ⟨v.toInt.toNat, by omega, ?_⟩
    apply Int32.toInt_inj.mp
    rw [xn_toInt (by omega)]
    omega
  · exact Or.inr h
theorem idx_n {c n : Nat} (h : c < n) (hn : n < 2147483648) : nI 0 ≤ nI c ∧ nI c < nI n := ⟨(xn_le (by decide) (by omega)).mpr (by omega), (xn_lt (by omega) hn).mpr h⟩
theorem idx_in {v : Int32} {n : Nat} (hn : n < 2147483648) : (nI 0 ≤ v ∧ v ≤ nI n - nI 1) ↔ (nI 0 ≤ v ∧ v < nI n) := by
  by_cases h0 : n = 0
  · subst h0
    constructor
    · intro ⟨h1, h2⟩
      exact absurd (Int32.le_trans h1 h2) (by decide)
    · intro ⟨h1, h2⟩
      exact absurd (Int32.lt_of_le_of_lt h1 h2) (by decide)
  · rw [xn_sub (by omega)]
    constructor
    · intro ⟨h1, h2⟩
      refine ⟨h1, ?_⟩
      rw [Int32.le_iff_toInt_le, xn_toInt (by omega)] at h2
      rw [Int32.lt_iff_toInt_lt, xn_toInt hn]
      omega
    · intro ⟨h1, h2⟩
      refine ⟨h1, ?_⟩
      rw [Int32.lt_iff_toInt_lt, xn_toInt hn] at h2
      rw [Int32.le_iff_toInt_le, xn_toInt (by omega)]
      omega
theorem xne_rng {v : Int32} {hi k : Nat} (h : v < nI 0 ∨ nI hi < v) (hk : k ≤ hi) (hh : hi < 2147483648) : ¬ v = nI k := by
  intro e
  subst e
  rcases h with h | h
  · rw [xn_lt (by omega) (by decide)] at h; omega
  · rw [xn_lt hh (by omega)] at h; omega
theorem xsw_d {v : Int32} {hi : Nat} (h : v < nI 0 ∨ nI hi < v) (hh : hi < 2147483648) : v.toInt < 0 ∨ (hi : Int) < v.toInt := by
  rcases h with h | h
  · left; rw [Int32.lt_iff_toInt_lt, xn_toInt (by decide)] at h; omega
  · right; rw [Int32.lt_iff_toInt_lt, xn_toInt hh] at h; exact h
section MOP
variable {E : Nat × Nat × Nat} {S : xSh} {V V' V2 : xV} {Q : Option Value → xSh → xV → Prop} {t : Nat} {g : pG}
theorem s_isArgument {b c : Int32} : xC E mX5_isArgument [.int b, .int c] S V Q ↔ Q (some (.int (nI (pargB b c).toNat))) S V := by
  show xX E mX5_isArgument 0 [some (.int b), some (.int c)] [] S V Q ↔ _
  rcases xrng b 0 6 (by decide) (by decide) with ⟨k, _, hk, rfl⟩ | ⟨hn, hn2⟩
  · have hk0 := rng_n (Nat.zero_le k) hk (by decide)
    have e : (pargB (nI k) c) = decide (nI 0 ≤ c ∧ c ≤ nI 99 ∧ pokb (ix (nI k)) (ix c) = true) := by
      unfold pargB
      simp only [hk0, and_self, decide_true, Bool.true_and]
      by_cases h1 : nI 0 ≤ c <;> by_cases h2 : c ≤ nI 99 <;> simp [h1, h2]
    have fin : ∀ (lo hi : Nat), lo ≤ hi → hi ≤ 99 → (∀ n, pok k n ↔ lo ≤ n ∧ n ≤ hi) → pargB (nI k) c = decide (nI lo ≤ c ∧ c ≤ nI hi) := by
      intro lo hi hl hh hp
      rw [e]
      refine decide_eq_decide.mpr ?_
      rw [ix_n (by omega), pokb_iff, hp]
      constructor
      · intro ⟨h1, h2, h3⟩
        rcases xrng c 0 99 (by decide) (by decide) with ⟨n, _, hn, rfl⟩ | ⟨hn, _⟩
        · rw [ix_n (by omega)] at h3; exact rng_n h3.1 h3.2 (by omega)
        · exact absurd ⟨h1, h2⟩ hn
      · intro h
        rcases xrng c lo hi hl (by omega) with ⟨n, hn1, hn, rfl⟩ | ⟨hn, _⟩
        · have := rng_n (Nat.zero_le n) (show n ≤ 99 by omega) (by decide)
          exact ⟨this.1, this.2, by rw [ix_n (by omega)]; exact ⟨hn1, hn⟩⟩
        · exact absurd h hn
    have hcase : k = 0 ∨ k = 1 ∨ k = 2 ∨ k = 3 ∨ k = 4 ∨ k = 5 ∨ k = 6 := by omega
    rcases hcase with rfl | rfl | rfl | rfl | rfl | rfl | rfl
    · have hf := fin 0 99 (by decide) (by decide) (fun n => by unfold pok; omega)
      rw [hf]
      by_cases h : nI 0 ≤ c ∧ c ≤ nI 99 <;> simp (disch := (first | assumption | exact xnl_i _ | exact xnl_r _ | exact xnl_n | exact Bool.toNat_lt _ | exact hb _ | exact hb2 _ | omega | exact Nat.le_of_ble_eq_true rfl | rfl | decide)) only [pX5_isArgument_0, pX5_isArgument_1_k0, pX5_isArgument_1_k1, pX5_isArgument_1_k2, pX5_isArgument_1_k3, pX5_isArgument_1_k4, pX5_isArgument_1_k5, pX5_isArgument_1_d, pX5_isArgument_40, pX5_isArgument_41, pX5_isArgument_42, pX5_isArgument_44, pX5_isArgument_47, pX5_isArgument_48, pX5_isArgument_49, pX5_isArgument_52, pX5_isArgument_53, pX5_isArgument_54, pX5_isArgument_57, pX5_isArgument_58, pX5_isArgument_61, pX5_isArgument_62, pX5_isArgument_63, pX5_isArgument_64, pX5_isArgument_65, pX5_isArgument_66, pX5_isArgument_69, pX5_isArgument_70, pX5_isArgument_71, pX5_isArgument_73, pX5_isArgument_76, pX5_isArgument_77, pX5_isArgument_78, pX5_isArgument_80, pX5_isArgument_83, pX5_isArgument_86, pX5_isArgument_87, pX5_isArgument_90, pX5_isArgument_91, nI_add, pk_mul, xn_sub, xn_and, xn_or, xn_xor, xn_shl, xn_shr, xn_lt, xn_le, xn_eq, xrf_some, xup_eq, xup_ne, xrow_eq, xrow_ne, Option.toList_some, Option.toList_none, List.singleton_append, List.nil_append, List.cons_append, xnl_n, xnl_i, xnl_r, Nat.zero_add, Nat.add_zero, ↓reduceIte, Nat.reduceEqDiff, Nat.reduceLeDiff, Nat.reduceAdd, Nat.reduceMul, Nat.reduceLT, Nat.one_ne_zero, eq_self, not_true_eq_false, not_false_eq_true, and_self, s_in, h, decide_true, decide_false, Bool.toNat_true, Bool.toNat_false]
    · have hf := fin 0 7 (by decide) (by decide) (fun n => by unfold pok; omega)
      rw [hf]
      by_cases h : nI 0 ≤ c ∧ c ≤ nI 7 <;> simp (disch := (first | assumption | exact xnl_i _ | exact xnl_r _ | exact xnl_n | exact Bool.toNat_lt _ | exact hb _ | exact hb2 _ | omega | exact Nat.le_of_ble_eq_true rfl | rfl | decide)) only [pX5_isArgument_0, pX5_isArgument_1_k0, pX5_isArgument_1_k1, pX5_isArgument_1_k2, pX5_isArgument_1_k3, pX5_isArgument_1_k4, pX5_isArgument_1_k5, pX5_isArgument_1_d, pX5_isArgument_40, pX5_isArgument_41, pX5_isArgument_42, pX5_isArgument_44, pX5_isArgument_47, pX5_isArgument_48, pX5_isArgument_49, pX5_isArgument_52, pX5_isArgument_53, pX5_isArgument_54, pX5_isArgument_57, pX5_isArgument_58, pX5_isArgument_61, pX5_isArgument_62, pX5_isArgument_63, pX5_isArgument_64, pX5_isArgument_65, pX5_isArgument_66, pX5_isArgument_69, pX5_isArgument_70, pX5_isArgument_71, pX5_isArgument_73, pX5_isArgument_76, pX5_isArgument_77, pX5_isArgument_78, pX5_isArgument_80, pX5_isArgument_83, pX5_isArgument_86, pX5_isArgument_87, pX5_isArgument_90, pX5_isArgument_91, nI_add, pk_mul, xn_sub, xn_and, xn_or, xn_xor, xn_shl, xn_shr, xn_lt, xn_le, xn_eq, xrf_some, xup_eq, xup_ne, xrow_eq, xrow_ne, Option.toList_some, Option.toList_none, List.singleton_append, List.nil_append, List.cons_append, xnl_n, xnl_i, xnl_r, Nat.zero_add, Nat.add_zero, ↓reduceIte, Nat.reduceEqDiff, Nat.reduceLeDiff, Nat.reduceAdd, Nat.reduceMul, Nat.reduceLT, Nat.one_ne_zero, eq_self, not_true_eq_false, not_false_eq_true, and_self, s_isContext, h, decide_true, decide_false, Bool.toNat_true, Bool.toNat_false]
    · have hf := fin 0 0 (by decide) (by decide) (fun n => by unfold pok; omega)
      rw [hf]
      by_cases h : c = nI 0
      · have h' : nI 0 ≤ c ∧ c ≤ nI 0 := by subst h; decide
        simp (disch := (first | assumption | exact xnl_i _ | exact xnl_r _ | exact xnl_n | exact Bool.toNat_lt _ | exact hb _ | exact hb2 _ | omega | exact Nat.le_of_ble_eq_true rfl | rfl | decide)) only [pX5_isArgument_0, pX5_isArgument_1_k0, pX5_isArgument_1_k1, pX5_isArgument_1_k2, pX5_isArgument_1_k3, pX5_isArgument_1_k4, pX5_isArgument_1_k5, pX5_isArgument_1_d, pX5_isArgument_40, pX5_isArgument_41, pX5_isArgument_42, pX5_isArgument_44, pX5_isArgument_47, pX5_isArgument_48, pX5_isArgument_49, pX5_isArgument_52, pX5_isArgument_53, pX5_isArgument_54, pX5_isArgument_57, pX5_isArgument_58, pX5_isArgument_61, pX5_isArgument_62, pX5_isArgument_63, pX5_isArgument_64, pX5_isArgument_65, pX5_isArgument_66, pX5_isArgument_69, pX5_isArgument_70, pX5_isArgument_71, pX5_isArgument_73, pX5_isArgument_76, pX5_isArgument_77, pX5_isArgument_78, pX5_isArgument_80, pX5_isArgument_83, pX5_isArgument_86, pX5_isArgument_87, pX5_isArgument_90, pX5_isArgument_91, nI_add, pk_mul, xn_sub, xn_and, xn_or, xn_xor, xn_shl, xn_shr, xn_lt, xn_le, xn_eq, xrf_some, xup_eq, xup_ne, xrow_eq, xrow_ne, Option.toList_some, Option.toList_none, List.singleton_append, List.nil_append, List.cons_append, xnl_n, xnl_i, xnl_r, Nat.zero_add, Nat.add_zero, ↓reduceIte, Nat.reduceEqDiff, Nat.reduceLeDiff, Nat.reduceAdd, Nat.reduceMul, Nat.reduceLT, Nat.one_ne_zero, eq_self, not_true_eq_false, not_false_eq_true, and_self, h, h', decide_true, decide_false, Bool.toNat_true, Bool.toNat_false]
      · have h' : ¬ (nI 0 ≤ c ∧ c ≤ nI 0) := fun z => h (Int32.le_antisymm z.2 z.1)
        simp (disch := (first | assumption | exact xnl_i _ | exact xnl_r _ | exact xnl_n | exact Bool.toNat_lt _ | exact hb _ | exact hb2 _ | omega | exact Nat.le_of_ble_eq_true rfl | rfl | decide)) only [pX5_isArgument_0, pX5_isArgument_1_k0, pX5_isArgument_1_k1, pX5_isArgument_1_k2, pX5_isArgument_1_k3, pX5_isArgument_1_k4, pX5_isArgument_1_k5, pX5_isArgument_1_d, pX5_isArgument_40, pX5_isArgument_41, pX5_isArgument_42, pX5_isArgument_44, pX5_isArgument_47, pX5_isArgument_48, pX5_isArgument_49, pX5_isArgument_52, pX5_isArgument_53, pX5_isArgument_54, pX5_isArgument_57, pX5_isArgument_58, pX5_isArgument_61, pX5_isArgument_62, pX5_isArgument_63, pX5_isArgument_64, pX5_isArgument_65, pX5_isArgument_66, pX5_isArgument_69, pX5_isArgument_70, pX5_isArgument_71, pX5_isArgument_73, pX5_isArgument_76, pX5_isArgument_77, pX5_isArgument_78, pX5_isArgument_80, pX5_isArgument_83, pX5_isArgument_86, pX5_isArgument_87, pX5_isArgument_90, pX5_isArgument_91, nI_add, pk_mul, xn_sub, xn_and, xn_or, xn_xor, xn_shl, xn_shr, xn_lt, xn_le, xn_eq, xrf_some, xup_eq, xup_ne, xrow_eq, xrow_ne, Option.toList_some, Option.toList_none, List.singleton_append, List.nil_append, List.cons_append, xnl_n, xnl_i, xnl_r, Nat.zero_add, Nat.add_zero, ↓reduceIte, Nat.reduceEqDiff, Nat.reduceLeDiff, Nat.reduceAdd, Nat.reduceMul, Nat.reduceLT, Nat.one_ne_zero, eq_self, not_true_eq_false, not_false_eq_true, and_self, h, h', decide_true, decide_false, Bool.toNat_true, Bool.toNat_false]
    · have hf := fin 0 3 (by decide) (by decide) (fun n => by unfold pok; omega)
      rw [hf]
      by_cases h : nI 0 ≤ c ∧ c ≤ nI 3 <;> simp (disch := (first | assumption | exact xnl_i _ | exact xnl_r _ | exact xnl_n | exact Bool.toNat_lt _ | exact hb _ | exact hb2 _ | omega | exact Nat.le_of_ble_eq_true rfl | rfl | decide)) only [pX5_isArgument_0, pX5_isArgument_1_k0, pX5_isArgument_1_k1, pX5_isArgument_1_k2, pX5_isArgument_1_k3, pX5_isArgument_1_k4, pX5_isArgument_1_k5, pX5_isArgument_1_d, pX5_isArgument_40, pX5_isArgument_41, pX5_isArgument_42, pX5_isArgument_44, pX5_isArgument_47, pX5_isArgument_48, pX5_isArgument_49, pX5_isArgument_52, pX5_isArgument_53, pX5_isArgument_54, pX5_isArgument_57, pX5_isArgument_58, pX5_isArgument_61, pX5_isArgument_62, pX5_isArgument_63, pX5_isArgument_64, pX5_isArgument_65, pX5_isArgument_66, pX5_isArgument_69, pX5_isArgument_70, pX5_isArgument_71, pX5_isArgument_73, pX5_isArgument_76, pX5_isArgument_77, pX5_isArgument_78, pX5_isArgument_80, pX5_isArgument_83, pX5_isArgument_86, pX5_isArgument_87, pX5_isArgument_90, pX5_isArgument_91, nI_add, pk_mul, xn_sub, xn_and, xn_or, xn_xor, xn_shl, xn_shr, xn_lt, xn_le, xn_eq, xrf_some, xup_eq, xup_ne, xrow_eq, xrow_ne, Option.toList_some, Option.toList_none, List.singleton_append, List.nil_append, List.cons_append, xnl_n, xnl_i, xnl_r, Nat.zero_add, Nat.add_zero, ↓reduceIte, Nat.reduceEqDiff, Nat.reduceLeDiff, Nat.reduceAdd, Nat.reduceMul, Nat.reduceLT, Nat.one_ne_zero, eq_self, not_true_eq_false, not_false_eq_true, and_self, s_in, h, decide_true, decide_false, Bool.toNat_true, Bool.toNat_false]
    · have hf := fin 0 3 (by decide) (by decide) (fun n => by unfold pok; omega)
      rw [hf]
      by_cases h : nI 0 ≤ c ∧ c ≤ nI 3 <;> simp (disch := (first | assumption | exact xnl_i _ | exact xnl_r _ | exact xnl_n | exact Bool.toNat_lt _ | exact hb _ | exact hb2 _ | omega | exact Nat.le_of_ble_eq_true rfl | rfl | decide)) only [pX5_isArgument_0, pX5_isArgument_1_k0, pX5_isArgument_1_k1, pX5_isArgument_1_k2, pX5_isArgument_1_k3, pX5_isArgument_1_k4, pX5_isArgument_1_k5, pX5_isArgument_1_d, pX5_isArgument_40, pX5_isArgument_41, pX5_isArgument_42, pX5_isArgument_44, pX5_isArgument_47, pX5_isArgument_48, pX5_isArgument_49, pX5_isArgument_52, pX5_isArgument_53, pX5_isArgument_54, pX5_isArgument_57, pX5_isArgument_58, pX5_isArgument_61, pX5_isArgument_62, pX5_isArgument_63, pX5_isArgument_64, pX5_isArgument_65, pX5_isArgument_66, pX5_isArgument_69, pX5_isArgument_70, pX5_isArgument_71, pX5_isArgument_73, pX5_isArgument_76, pX5_isArgument_77, pX5_isArgument_78, pX5_isArgument_80, pX5_isArgument_83, pX5_isArgument_86, pX5_isArgument_87, pX5_isArgument_90, pX5_isArgument_91, nI_add, pk_mul, xn_sub, xn_and, xn_or, xn_xor, xn_shl, xn_shr, xn_lt, xn_le, xn_eq, xrf_some, xup_eq, xup_ne, xrow_eq, xrow_ne, Option.toList_some, Option.toList_none, List.singleton_append, List.nil_append, List.cons_append, xnl_n, xnl_i, xnl_r, Nat.zero_add, Nat.add_zero, ↓reduceIte, Nat.reduceEqDiff, Nat.reduceLeDiff, Nat.reduceAdd, Nat.reduceMul, Nat.reduceLT, Nat.one_ne_zero, eq_self, not_true_eq_false, not_false_eq_true, and_self, s_in, h, decide_true, decide_false, Bool.toNat_true, Bool.toNat_false]
    · have hf := fin 0 99 (by decide) (by decide) (fun n => by unfold pok; omega)
      rw [hf]
      by_cases h : nI 0 ≤ c ∧ c ≤ nI 99 <;> simp (disch := (first | assumption | exact xnl_i _ | exact xnl_r _ | exact xnl_n | exact Bool.toNat_lt _ | exact hb _ | exact hb2 _ | omega | exact Nat.le_of_ble_eq_true rfl | rfl | decide)) only [pX5_isArgument_0, pX5_isArgument_1_k0, pX5_isArgument_1_k1, pX5_isArgument_1_k2, pX5_isArgument_1_k3, pX5_isArgument_1_k4, pX5_isArgument_1_k5, pX5_isArgument_1_d, pX5_isArgument_40, pX5_isArgument_41, pX5_isArgument_42, pX5_isArgument_44, pX5_isArgument_47, pX5_isArgument_48, pX5_isArgument_49, pX5_isArgument_52, pX5_isArgument_53, pX5_isArgument_54, pX5_isArgument_57, pX5_isArgument_58, pX5_isArgument_61, pX5_isArgument_62, pX5_isArgument_63, pX5_isArgument_64, pX5_isArgument_65, pX5_isArgument_66, pX5_isArgument_69, pX5_isArgument_70, pX5_isArgument_71, pX5_isArgument_73, pX5_isArgument_76, pX5_isArgument_77, pX5_isArgument_78, pX5_isArgument_80, pX5_isArgument_83, pX5_isArgument_86, pX5_isArgument_87, pX5_isArgument_90, pX5_isArgument_91, nI_add, pk_mul, xn_sub, xn_and, xn_or, xn_xor, xn_shl, xn_shr, xn_lt, xn_le, xn_eq, xrf_some, xup_eq, xup_ne, xrow_eq, xrow_ne, Option.toList_some, Option.toList_none, List.singleton_append, List.nil_append, List.cons_append, xnl_n, xnl_i, xnl_r, Nat.zero_add, Nat.add_zero, ↓reduceIte, Nat.reduceEqDiff, Nat.reduceLeDiff, Nat.reduceAdd, Nat.reduceMul, Nat.reduceLT, Nat.one_ne_zero, eq_self, not_true_eq_false, not_false_eq_true, and_self, s_in, h, decide_true, decide_false, Bool.toNat_true, Bool.toNat_false]
    · have hf := fin 1 15 (by decide) (by decide) (fun n => by unfold pok; omega)
      rw [hf]
      have hd : (nI 6).toInt < 0 ∨ 5 < (nI 6).toInt := by decide
      rw [pX5_isArgument_0, pX5_isArgument_1_d hd]
      by_cases h : nI 1 ≤ c ∧ c ≤ nI 15 <;> simp (disch := (first | assumption | exact xnl_i _ | exact xnl_r _ | exact xnl_n | exact Bool.toNat_lt _ | exact hb _ | exact hb2 _ | omega | exact Nat.le_of_ble_eq_true rfl | rfl | decide)) only [pX5_isArgument_70, pX5_isArgument_71, pX5_isArgument_73, pX5_isArgument_76, pX5_isArgument_77, pX5_isArgument_78, pX5_isArgument_80, pX5_isArgument_83, pX5_isArgument_86, pX5_isArgument_87, pX5_isArgument_90, pX5_isArgument_91, nI_add, pk_mul, xn_sub, xn_and, xn_or, xn_xor, xn_shl, xn_shr, xn_lt, xn_le, xn_eq, xrf_some, xup_eq, xup_ne, xrow_eq, xrow_ne, Option.toList_some, Option.toList_none, List.singleton_append, List.nil_append, List.cons_append, xnl_n, xnl_i, xnl_r, Nat.zero_add, Nat.add_zero, ↓reduceIte, Nat.reduceEqDiff, Nat.reduceLeDiff, Nat.reduceAdd, Nat.reduceMul, Nat.reduceLT, Nat.one_ne_zero, eq_self, not_true_eq_false, not_false_eq_true, and_self, s_in, h, decide_true, decide_false, Bool.toNat_true, Bool.toNat_false]
  · have e : pargB b c = false := by unfold pargB; simp only [hn, decide_false, Bool.false_and]
    have hd : b.toInt < 0 ∨ 5 < b.toInt := by have := xsw_d hn2 (by decide); omega
    have hne : ¬ b = nI 6 := xne_rng hn2 (by decide) (by decide)
    rw [e, pX5_isArgument_0, pX5_isArgument_1_d hd]
    simp (disch := (first | assumption | exact xnl_i _ | exact xnl_r _ | exact xnl_n | exact Bool.toNat_lt _ | exact hb _ | exact hb2 _ | omega | exact Nat.le_of_ble_eq_true rfl | rfl | decide)) only [pX5_isArgument_70, pX5_isArgument_71, pX5_isArgument_73, pX5_isArgument_76, pX5_isArgument_77, pX5_isArgument_78, pX5_isArgument_80, pX5_isArgument_83, pX5_isArgument_86, pX5_isArgument_87, pX5_isArgument_90, pX5_isArgument_91, nI_add, pk_mul, xn_sub, xn_and, xn_or, xn_xor, xn_shl, xn_shr, xn_lt, xn_le, xn_eq, xrf_some, xup_eq, xup_ne, xrow_eq, xrow_ne, Option.toList_some, Option.toList_none, List.singleton_append, List.nil_append, List.cons_append, xnl_n, xnl_i, xnl_r, Nat.zero_add, Nat.add_zero, ↓reduceIte, Nat.reduceEqDiff, Nat.reduceLeDiff, Nat.reduceAdd, Nat.reduceMul, Nat.reduceLT, Nat.one_ne_zero, eq_self, not_true_eq_false, not_false_eq_true, and_self, hne, Bool.toNat_false]
theorem s_adds {σ : Nat → Nat} {c k n : Nat} (hS : mShape S t) (hc : c < 8) (hm : σ (62 * c) < 16) : xC E mX5_adds [.ref t, .int (nI c), .int (nI k), .int (nI n)] S (mset V t σ) Q ↔ Q none S (mset V t (pappend σ c k n)) := by
  have hS' := hS; obtain ⟨k0, r1, r2, r3, r5, r6, r7, r9, r10, r14, k1, n1, k2, n2, k3, n3, k4, n4, k5, n5, k6, n6, k7, n7, k8, n8, k9, n9⟩ := hS'
  show xX E mX5_adds 0 [some (.ref t), some (.int (nI c)), some (.int (nI k)), some (.int (nI n)), none] [] S _ Q ↔ _
  simp (disch := (first | assumption | exact xnl_i _ | exact xnl_r _ | exact xnl_n | exact Bool.toNat_lt _ | exact hb _ | exact hb2 _ | omega | exact Nat.le_of_ble_eq_true rfl | rfl | decide)) only [pX5_adds_0, pX5_adds_2, pX5_adds_3, pX5_adds_4, pX5_adds_5, pX5_adds_6, pX5_adds_9, pX5_adds_10, pX5_adds_11, pX5_adds_13, pX5_adds_14, pX5_adds_15, pX5_adds_17, pX5_adds_18, pX5_adds_21, pX5_adds_22, pX5_adds_23, pX5_adds_25, pX5_adds_26, pX5_adds_27, pX5_adds_28, pX5_adds_31, pX5_adds_32, pX5_adds_33, pX5_adds_35, pX5_adds_36, pX5_adds_37, pX5_adds_38, pX5_adds_41, pX5_adds_42, pX5_adds_43, pX5_adds_44, pX5_adds_45, pX5_adds_46, pX5_adds_47, pX5_adds_50, pX5_adds_51, pX5_adds_52, pX5_adds_55, nI_add, pk_mul, xn_sub, xn_and, xn_or, xn_xor, xn_shl, xn_shr, xn_lt, xn_le, xn_eq, xrf_some, xup_eq, xup_ne, xrow_eq, xrow_ne, Option.toList_some, Option.toList_none, List.singleton_append, List.nil_append, List.cons_append, xnl_n, xnl_i, xnl_r, Nat.zero_add, Nat.add_zero, ↓reduceIte, Nat.reduceEqDiff, Nat.reduceLeDiff, Nat.reduceAdd, Nat.reduceMul, Nat.reduceLT, Nat.one_ne_zero, eq_self, not_true_eq_false, not_false_eq_true, and_self, s_getm hS, s_laym hS]
  unfold pappend
  rw [su_ne (by omega), su_ne (by omega), su_ne (by omega)]
end MOP
