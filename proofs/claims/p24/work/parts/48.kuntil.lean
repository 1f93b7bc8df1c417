/-! ===== the class: slots that pass; a machine copied ===== -/
theorem pst_cong {σ τ : Nat → Nat} {c : Nat} (hw : wf σ) (hc : c < 8) (e : ∀ i, (∀ d j, d < 8 → j < 4 → ¬ i = 62 * d + (10 + j)) → ¬ i = 496 → (∀ d, d < 8 → ¬ i = 62 * d + 9) → τ i = σ i) (e9 : ¬ σ (62 * c) ≤ σ (62 * c + 1) → τ (62 * c + 9) = σ (62 * c + 9)) : pst τ c = pst σ c := by
  obtain ⟨w1, w2, w3, w4, w5, w6, w7, w8, w9⟩ := hw.2.1 c hc
  have e0 : τ (62 * c) = σ (62 * c) := e _ (fun _ _ _ _ => by omega) (by omega) (fun _ _ => by omega)
  have e1 : τ (62 * c + 1) = σ (62 * c + 1) := e _ (fun _ _ _ _ => by omega) (by omega) (fun _ _ => by omega)
  have e4 : ∀ d, d < 8 → τ (62 * d + 4) = σ (62 * d + 4) := fun d hd => e _ (fun _ _ _ _ => by omega) (by omega) (fun _ _ => by omega)
  unfold pst
  rw [e0, e1]
  by_cases h0 : σ (62 * c) ≤ σ (62 * c + 1)
  · rw [if_pos h0, if_pos h0]
  · rw [if_neg h0, if_neg h0, e9 h0]
    have hp : σ (62 * c + 1) < 16 := by omega
    obtain ⟨hok, _⟩ := w9 (σ (62 * c + 1)) (by omega)
    have ec : pcmd τ c (σ (62 * c + 1)) = pcmd σ c (σ (62 * c + 1)) := e (62 * c + (14 + 3 * σ (62 * c + 1))) (fun d _ _ _ => by rcases Nat.lt_trichotomy d c with h | h | h <;> omega) (by omega) (fun d _ => by rcases Nat.lt_trichotomy d c with h | h | h <;> omega)
    have ea : parg τ c (σ (62 * c + 1)) = parg σ c (σ (62 * c + 1)) := e (62 * c + (14 + 3 * σ (62 * c + 1) + 1)) (fun d _ _ _ => by rcases Nat.lt_trichotomy d c with h | h | h <;> omega) (by omega) (fun d _ => by rcases Nat.lt_trichotomy d c with h | h | h <;> omega)
    rw [ec, ea]
    unfold pok at hok
    by_cases h1 : pcmd σ c (σ (62 * c + 1)) = 1
    · rw [e4 _ (by omega)]
      by_cases h9 : 0 < σ (62 * c + 9)
      · rw [if_pos h9, if_pos h9]
      · rw [if_neg h9, if_neg h9, if_pos h1, if_pos h1]
    · rw [if_neg h1, if_neg h1]
      by_cases h2 : pcmd σ c (σ (62 * c + 1)) = 2
      · rw [e4 c hc, if_pos h2, if_pos h2]
      · rw [if_neg h2, if_neg h2, e (497 + parg σ c (σ (62 * c + 1))) (fun _ _ _ _ => by omega) (by omega) (fun _ _ => by omega)]
/-- who is stuck stays so -/
theorem stuck_pst {σ : Nat → Nat} (hw : wf σ) (h : pstuck σ = true) : ∀ c, c < 8 → pst (pslot σ) c = pst σ c := by
  have hs := (pstuck_iff.mp h).2
  have ho : σ 496 % 8 < 8 := Nat.mod_lt _ (by decide)
  have h9 : ∀ c, c < 8 → ¬ σ (62 * c) ≤ σ (62 * c + 1) → σ (62 * c + 9) = 0 := fun c hc hd => by
    apply Classical.byContradiction
    intro z
    have : pst σ c = 2 := by unfold pst; rw [if_neg hd, if_pos (by omega)]
    exact (hs c hc).2 this
  have hwk : ∀ c, c < 8 → pst (pwakes σ) c = pst σ c := fun c hc => pst_cong hw hc (fun i h1 h2 h3 => pwakes_o h3) (fun hd => by rw [pwakes_9 hc, h9 c hc hd])
  have hr : pslotR σ = none := by
    cases hr : pslotR σ with
    | none => rfl
    | some c =>
      obtain ⟨hc, hp⟩ := prunner_1 ho hr
      rw [hwk c hc] at hp
      exact absurd hp (hs c hc).1
  intro c hc
  have e : pslot σ = su (pacct (pwakes σ) (σ 496 % 8) none) 496 (σ 496 + 1) := by unfold pslot; rw [hr]
  rw [e]
  refine (pst_cong (wf_wakes hw) hc (fun i h1 h2 h3 => ?_) (fun _ => ?_)).trans (hwk c hc)
  · rw [su_ne h2]; exact pacct_o ho (fun c hc => by cases hc) h1
  · rw [su_ne (by omega)]; exact pacct_o ho (fun c hc => by cases hc) (fun _ _ _ _ => by omega)
theorem stuck_on {σ : Nat → Nat} {n : Nat} (hg : gs σ n) (h : pstuck σ = true) : ∀ k, n + k ≤ 200000 → pstuck (pslots k σ) = true ∧ pin (pslots k σ) 0 = pin σ 0 := by
  intro k
  induction k with
  | zero => intro _; exact ⟨h, rfl⟩
  | succ k ih =>
    intro hk
    obtain ⟨h1, h2⟩ := ih (by omega)
    have hgk := (pslots_gs hg k (by omega)).1
    have hp := stuck_pst (gs_wf hgk) h1
    have e : pslots (k + 1) σ = pslot (pslots k σ) := rfl
    rw [e]
    refine ⟨?_, ?_⟩
    · rw [pstuck_iff] at h1 ⊢
      obtain ⟨⟨c, hc, hz⟩, h3⟩ := h1
      exact ⟨⟨c, hc, by rw [hp c hc]; exact hz⟩, fun d hd => by rw [hp d hd]; exact h3 d hd⟩
    · rw [← h2]; exact bm_congr (fun c hc => by rw [hp c hc])
theorem pslots_add {σ : Nat → Nat} {a : Nat} : ∀ b, pslots (a + b) σ = pslots b (pslots a σ) := by
  intro b
  induction b with
  | zero => rfl
  | succ b ih => show pslot (pslots (a + b) σ) = pslot (pslots b (pslots a σ)); rw [ih]
def kstop (σ : Nat → Nat) (m k : Nat) : Bool := decide (pin (pslots k σ) 0 &&& m = m) || pstuck (pslots k σ)
def kcnt (σ : Nat → Nat) (m : Nat) : Nat := (pfst (kstop σ m) 1000 0).getD 1000
theorem pfst_none {P : Nat → Bool} : ∀ k a, (∀ j, a ≤ j → j ≤ a + k → P j = false) → pfst P k a = none := by
  intro k
  induction k with
  | zero => intro a h; unfold pfst; rw [h a (Nat.le_refl _) (Nat.le_refl _)]; rfl
  | succ k ih =>
    intro a h
    unfold pfst
    rw [h a (Nat.le_refl _) (by omega), if_neg (by decide)]
    exact ih (a + 1) (fun j h1 h2 => h j (by omega) (by omega))
theorem pfst_two {P T : Nat → Bool} {N : Nat} (hT : ∀ k j, T k = true → k ≤ j → j ≤ N → P j = P k) : ∀ f a, a + f ≤ N → pfst P f a = if P ((pfst (fun k => P k || T k) f a).getD (a + f)) = true then some ((pfst (fun k => P k || T k) f a).getD (a + f)) else none := by
  intro f
  induction f with
  | zero =>
    intro a _
    unfold pfst
    cases hP : P a <;> cases hT : T a <;> simp [hP]
  | succ f ih =>
    intro a ha
    unfold pfst
    cases hP : P a with
    | true => simp [hP]
    | false =>
      cases hTa : T a with
      | true =>
        have hn := pfst_none (P := P) f (a + 1) (fun j h1 h2 => by rw [hT a j hTa (by omega) (by omega), hP])
        simp [hn, hP]
      | false =>
        have := ih (a + 1) (by omega)
        rw [show a + 1 + f = a + (f + 1) by omega] at this
        simp only [Bool.or_self, Bool.false_eq_true, if_false]
        exact this
theorem kcnt_until {σ : Nat → Nat} {m n : Nat} (hg : gs σ n) (hn : n ≤ 100000) : puntil σ m = if pin (pslots (kcnt σ m) σ) 0 &&& m = m then some (kcnt σ m) else none := by
  have h := pfst_two (P := fun k => decide (pin (pslots k σ) 0 &&& m = m)) (T := fun k => pstuck (pslots k σ)) (N := 1000) (fun k j hk h1 h2 => by
    have hgk := (pslots_gs hg k (by omega)).1
    have := (stuck_on hgk hk (j - k) (by omega)).2
    rw [← pslots_add, show k + (j - k) = j by omega] at this
    simp only [this]) 1000 0 (Nat.le_refl _)
  rw [Nat.zero_add] at h
  unfold puntil
  rw [h]
  show (if decide (pin (pslots (kcnt σ m) σ) 0 &&& m = m) = true then some (kcnt σ m) else none) = _
  by_cases hd : pin (pslots (kcnt σ m) σ) 0 &&& m = m <;> simp [hd]
theorem kcnt_le (σ : Nat → Nat) (m : Nat) : kcnt σ m ≤ 1000 := by
  unfold kcnt
  cases h : pfst (kstop σ m) 1000 0 with
  | none => exact Nat.le_refl _
  | some r => have := pfst_le h; show r ≤ 1000; omega
theorem kcnt_run (σ : Nat → Nat) : kcnt σ 255 = prunN σ := by
  unfold kcnt prunN
  have : kstop σ 255 = pstopR σ := by
    funext k
    unfold kstop pstopR
    have h1 : pin (pslots k σ) 0 &&& 255 = pin (pslots k σ) 0 := by
      rw [show 255 = 2 ^ 8 - 1 from rfl, Nat.and_two_pow_sub_one_eq_mod]
      exact Nat.mod_eq_of_lt (bm_lt _ 8)
    rw [h1]
  rw [this]
section KUN
variable {E : Nat × Nat × Nat} {S : xSh} {V V' W : xV} {Q : Option Value → xSh → xV → Prop} {mb nb : Nat} {σ : Nat → Nat}
theorem k_passSlots {c : Nat} (hS : kShape S mb) (hK : kM V mb σ) (hg : gs σ 100000) (hc : c ≤ 200) : ∃ V', kM V' mb (pslots c σ) ∧ kOut V V' mb ∧ ∀ Q : Option Value → xSh → xV → Prop, xC E mX2_passSlots [.ref mb, .int (nI c)] S V Q ↔ Q (some (.int (plast σ c))) S V' := by
  have hS' := hS
  obtain ⟨mk0, mr0, mr1, mr2, mk1, mn1, mk2, mn2, mk3, mn3, mcs⟩ := hS'
  have loop : ∀ k i W, i + k = c → kM W mb (pslots i σ) → kOut V W mb → ∃ V', kM V' mb (pslots c σ) ∧ kOut V V' mb ∧ ∀ Q : Option Value → xSh → xV → Prop, xX E mX2_passSlots 5 [some (.ref mb), some (.int (nI c)), some (.int (plast σ i)), some (.int (nI i))] [] S W Q ↔ Q (some (.int (plast σ c))) S V' := by
    intro k
    induction k with
    | zero =>
      intro i W hn hW ho
      have hi : i = c := by omega
      subst hi
      refine ⟨W, hW, ho, fun Q => ?_⟩
      simp (disch := (first | assumption | exact xnl_i _ | exact xnl_r _ | exact xnl_n | exact Bool.toNat_lt _ | exact hb _ | exact hb2 _ | omega | exact Nat.le_of_ble_eq_true rfl | rfl | decide)) only [pX2_passSlots_5, pX2_passSlots_6, pX2_passSlots_7, pX2_passSlots_10, pX2_passSlots_11, pX2_passSlots_14, pX2_passSlots_15, pX2_passSlots_18, pX2_passSlots_21, pX2_passSlots_22, nI_add, pk_mul, xn_sub, xn_and, xn_or, xn_xor, xn_shl, xn_shr, xn_lt, xn_le, xn_eq, xrf_some, xup_eq, xup_ne, xrow_eq, xrow_ne, Option.toList_some, Option.toList_none, List.singleton_append, List.nil_append, List.cons_append, xnl_n, xnl_i, xnl_r, Nat.zero_add, Nat.add_zero, ↓reduceIte, Nat.reduceEqDiff, Nat.reduceLeDiff, Nat.reduceAdd, Nat.reduceMul, Nat.reduceLT, Nat.one_ne_zero, eq_self, not_true_eq_false, not_false_eq_true, and_self, Nat.le_refl]
    | succ k ih =>
      intro i W hn hW ho
      have hgi := (pslots_gs hg i (by omega)).1
      obtain ⟨W2, h1, h2, h3⟩ := k_slot (E := E) hS hW hgi (by omega)
      obtain ⟨V', g1, g2, g3⟩ := ih (i + 1) W2 (by omega) h1 (kOut_t ho h2)
      have hi : ¬ c ≤ i := by omega
      refine ⟨V', g1, g2, fun Q => ?_⟩
      refine Iff.trans ?_ (g3 Q)
      rw [pX2_passSlots_5]
      simp (disch := (first | assumption | exact xnl_i _ | exact xnl_r _ | exact xnl_n | exact Bool.toNat_lt _ | exact hb _ | exact hb2 _ | omega | exact Nat.le_of_ble_eq_true rfl | rfl | decide)) only [pX2_passSlots_6, pX2_passSlots_7, pX2_passSlots_10, pX2_passSlots_11, pX2_passSlots_14, pX2_passSlots_15, pX2_passSlots_18, nI_add, pk_mul, xn_sub, xn_and, xn_or, xn_xor, xn_shl, xn_shr, xn_lt, xn_le, xn_eq, xrf_some, xup_eq, xup_ne, xrow_eq, xrow_ne, Option.toList_some, Option.toList_none, List.singleton_append, List.nil_append, List.cons_append, xnl_n, xnl_i, xnl_r, Nat.zero_add, Nat.add_zero, ↓reduceIte, Nat.reduceEqDiff, Nat.reduceLeDiff, Nat.reduceAdd, Nat.reduceMul, Nat.reduceLT, Nat.one_ne_zero, eq_self, not_true_eq_false, not_false_eq_true, and_self, mk0, mr0, mr1, mr2, hi, h3]
      rfl
  obtain ⟨V', g1, g2, g3⟩ := loop c 0 V (by omega) hK kOut_r
  refine ⟨V', g1, g2, fun Q => ?_⟩
  show xX E mX2_passSlots 0 [some (.ref mb), some (.int (nI c)), none, none] [] S V Q ↔ _
  refine Iff.trans ?_ (g3 Q)
  simp (disch := (first | assumption | exact xnl_i _ | exact xnl_r _ | exact xnl_n | exact Bool.toNat_lt _ | exact hb _ | exact hb2 _ | omega | exact Nat.le_of_ble_eq_true rfl | rfl | decide)) only [pX2_passSlots_0, pX2_passSlots_2, pX2_passSlots_3, pX2_passSlots_4, nI_add, pk_mul, xn_sub, xn_and, xn_or, xn_xor, xn_shl, xn_shr, xn_lt, xn_le, xn_eq, xrf_some, xup_eq, xup_ne, xrow_eq, xrow_ne, Option.toList_some, Option.toList_none, List.singleton_append, List.nil_append, List.cons_append, xnl_n, xnl_i, xnl_r, Nat.zero_add, Nat.add_zero, ↓reduceIte, Nat.reduceEqDiff, Nat.reduceLeDiff, Nat.reduceAdd, Nat.reduceMul, Nat.reduceLT, Nat.one_ne_zero, eq_self, not_true_eq_false, not_false_eq_true, and_self]
  rfl
theorem k_passUntil {m : Nat} (hS : kShape S mb) (hK : kM V mb σ) (hg : gs σ 100000) (hm : m < 256) : ∃ V', kM V' mb (pslots (kcnt σ m) σ) ∧ kOut V V' mb ∧ ∀ Q : Option Value → xSh → xV → Prop, xC E mX2_passUntilDone [.ref mb, .int (nI m)] S V Q ↔ Q (some (.int (nI (kcnt σ m)))) S V' := by
  have hS' := hS
  obtain ⟨mk0, mr0, mr1, mr2, mk1, mn1, mk2, mn2, mk3, mn3, mcs⟩ := hS'
  have loop : ∀ k i W, i + k = 1000 → kM W mb (pslots i σ) → kOut V W mb → kcnt σ m = (pfst (kstop σ m) k i).getD 1000 → ∃ V', kM V' mb (pslots (kcnt σ m) σ) ∧ kOut V V' mb ∧ ∀ Q : Option Value → xSh → xV → Prop, xX E mX2_passUntilDone 2 [some (.ref mb), some (.int (nI m)), some (.int (nI i))] [] S W Q ↔ Q (some (.int (nI (kcnt σ m)))) S V' := by
    intro k
    induction k with
    | zero =>
      intro i W hn hW ho hp
      have hi : i = 1000 := by omega
      subst hi
      have hp2 : kcnt σ m = 1000 := by rw [hp]; unfold pfst; split <;> rfl
      rw [hp2]
      refine ⟨W, hW, ho, fun Q => ?_⟩
      simp (disch := (first | assumption | exact xnl_i _ | exact xnl_r _ | exact xnl_n | exact Bool.toNat_lt _ | exact hb _ | exact hb2 _ | omega | exact Nat.le_of_ble_eq_true rfl | rfl | decide)) only [pX2_passUntilDone_2, pX2_passUntilDone_3, pX2_passUntilDone_6, pX2_passUntilDone_35, pX2_passUntilDone_36, nI_add, pk_mul, xn_sub, xn_and, xn_or, xn_xor, xn_shl, xn_shr, xn_lt, xn_le, xn_eq, xrf_some, xup_eq, xup_ne, xrow_eq, xrow_ne, Option.toList_some, Option.toList_none, List.singleton_append, List.nil_append, List.cons_append, xnl_n, xnl_i, xnl_r, Nat.zero_add, Nat.add_zero, ↓reduceIte, Nat.reduceEqDiff, Nat.reduceLeDiff, Nat.reduceAdd, Nat.reduceMul, Nat.reduceLT, Nat.one_ne_zero, eq_self, not_true_eq_false, not_false_eq_true, and_self]
    | succ k ih =>
      intro i W hn hW ho hp
      have hgi := (pslots_gs hg i (by omega)).1
      have hi : ¬ 1000 ≤ i := by omega
      unfold pfst at hp
      by_cases hst : kstop σ m i = true
      · rw [if_pos hst] at hp
        have hp2 : kcnt σ m = i := hp
        rw [hp2]
        refine ⟨W, hW, ho, fun Q => ?_⟩
        unfold kstop at hst
        by_cases h0 : pin (pslots i σ) 0 &&& m = m
        · simp (disch := (first | assumption | exact xnl_i _ | exact xnl_r _ | exact xnl_n | exact Bool.toNat_lt _ | exact hb _ | exact hb2 _ | omega | exact Nat.le_of_ble_eq_true rfl | rfl | decide)) only [pX2_passUntilDone_2, pX2_passUntilDone_3, pX2_passUntilDone_6, pX2_passUntilDone_9, pX2_passUntilDone_10, pX2_passUntilDone_11, pX2_passUntilDone_14, pX2_passUntilDone_35, pX2_passUntilDone_36, nI_add, pk_mul, xn_sub, xn_and, xn_or, xn_xor, xn_shl, xn_shr, xn_lt, xn_le, xn_eq, xrf_some, xup_eq, xup_ne, xrow_eq, xrow_ne, Option.toList_some, Option.toList_none, List.singleton_append, List.nil_append, List.cons_append, xnl_n, xnl_i, xnl_r, Nat.zero_add, Nat.add_zero, ↓reduceIte, Nat.reduceEqDiff, Nat.reduceLeDiff, Nat.reduceAdd, Nat.reduceMul, Nat.reduceLT, Nat.one_ne_zero, eq_self, not_true_eq_false, not_false_eq_true, and_self, mk0, mr0, mr1, mr2, hi, k_areDone hS hW.1 (gs_wf hgi), h0, decide_true, Bool.toNat_true]
        · have hst2 : pstuck (pslots i σ) = true := by simpa [h0] using hst
          simp (disch := (first | assumption | exact xnl_i _ | exact xnl_r _ | exact xnl_n | exact Bool.toNat_lt _ | exact hb _ | exact hb2 _ | omega | exact Nat.le_of_ble_eq_true rfl | rfl | decide)) only [pX2_passUntilDone_2, pX2_passUntilDone_3, pX2_passUntilDone_6, pX2_passUntilDone_9, pX2_passUntilDone_10, pX2_passUntilDone_11, pX2_passUntilDone_14, pX2_passUntilDone_17, pX2_passUntilDone_18, pX2_passUntilDone_21, pX2_passUntilDone_35, pX2_passUntilDone_36, nI_add, pk_mul, xn_sub, xn_and, xn_or, xn_xor, xn_shl, xn_shr, xn_lt, xn_le, xn_eq, xrf_some, xup_eq, xup_ne, xrow_eq, xrow_ne, Option.toList_some, Option.toList_none, List.singleton_append, List.nil_append, List.cons_append, xnl_n, xnl_i, xnl_r, Nat.zero_add, Nat.add_zero, ↓reduceIte, Nat.reduceEqDiff, Nat.reduceLeDiff, Nat.reduceAdd, Nat.reduceMul, Nat.reduceLT, Nat.one_ne_zero, eq_self, not_true_eq_false, not_false_eq_true, and_self, mk0, mr0, mr1, mr2, hi, k_areDone hS hW.1 (gs_wf hgi), h0, decide_false, Bool.toNat_false, k_isStuck hS hW.1 (gs_wf hgi), hst2, Bool.toNat_true]
      · rw [if_neg hst] at hp
        unfold kstop at hst
        have h0 : ¬ pin (pslots i σ) 0 &&& m = m := fun z => hst (by simp [z])
        have hst2 : pstuck (pslots i σ) = false := by simpa [h0] using hst
        obtain ⟨W2, h1, h2, h3⟩ := k_slot (E := E) hS hW hgi (by omega)
        obtain ⟨V', g1, g2, g3⟩ := ih (i + 1) W2 (by omega) h1 (kOut_t ho h2) hp
        refine ⟨V', g1, g2, fun Q => ?_⟩
        refine Iff.trans ?_ (g3 Q)
        rw [pX2_passUntilDone_2]
        simp (disch := (first | assumption | exact xnl_i _ | exact xnl_r _ | exact xnl_n | exact Bool.toNat_lt _ | exact hb _ | exact hb2 _ | omega | exact Nat.le_of_ble_eq_true rfl | rfl | decide)) only [pX2_passUntilDone_3, pX2_passUntilDone_6, pX2_passUntilDone_9, pX2_passUntilDone_10, pX2_passUntilDone_11, pX2_passUntilDone_14, pX2_passUntilDone_17, pX2_passUntilDone_18, pX2_passUntilDone_21, pX2_passUntilDone_24, pX2_passUntilDone_25, pX2_passUntilDone_28, pX2_passUntilDone_29, pX2_passUntilDone_32, nI_add, pk_mul, xn_sub, xn_and, xn_or, xn_xor, xn_shl, xn_shr, xn_lt, xn_le, xn_eq, xrf_some, xup_eq, xup_ne, xrow_eq, xrow_ne, Option.toList_some, Option.toList_none, List.singleton_append, List.nil_append, List.cons_append, xnl_n, xnl_i, xnl_r, Nat.zero_add, Nat.add_zero, ↓reduceIte, Nat.reduceEqDiff, Nat.reduceLeDiff, Nat.reduceAdd, Nat.reduceMul, Nat.reduceLT, Nat.one_ne_zero, eq_self, not_true_eq_false, not_false_eq_true, and_self, mk0, mr0, mr1, mr2, hi, k_areDone hS hW.1 (gs_wf hgi), h0, decide_false, Bool.toNat_false, k_isStuck hS hW.1 (gs_wf hgi), hst2, h3]
  obtain ⟨V', g1, g2, g3⟩ := loop 1000 0 V rfl hK kOut_r rfl
  refine ⟨V', g1, g2, fun Q => ?_⟩
  show xX E mX2_passUntilDone 0 [some (.ref mb), some (.int (nI m)), none] [] S V Q ↔ _
  refine Iff.trans ?_ (g3 Q)
  simp (disch := (first | assumption | exact xnl_i _ | exact xnl_r _ | exact xnl_n | exact Bool.toNat_lt _ | exact hb _ | exact hb2 _ | omega | exact Nat.le_of_ble_eq_true rfl | rfl | decide)) only [pX2_passUntilDone_0, pX2_passUntilDone_1, nI_add, pk_mul, xn_sub, xn_and, xn_or, xn_xor, xn_shl, xn_shr, xn_lt, xn_le, xn_eq, xrf_some, xup_eq, xup_ne, xrow_eq, xrow_ne, Option.toList_some, Option.toList_none, List.singleton_append, List.nil_append, List.cons_append, xnl_n, xnl_i, xnl_r, Nat.zero_add, Nat.add_zero, ↓reduceIte, Nat.reduceEqDiff, Nat.reduceLeDiff, Nat.reduceAdd, Nat.reduceMul, Nat.reduceLT, Nat.one_ne_zero, eq_self, not_true_eq_false, not_false_eq_true, and_self]
theorem k_copyM {n : Nat} (hS : kShape S mb) (hS2 : kShape S nb) (hK : kM V nb σ) (hg : gs σ n) (hd : mb + 43 < nb ∨ nb + 43 < mb) : ∃ V', kM V' mb σ ∧ kOut V V' mb ∧ ∀ Q : Option Value → xSh → xV → Prop, xC E mX2_copyFrom [.ref mb, .ref nb] S V Q ↔ Q none S V' := by
  have hS' := hS
  obtain ⟨mk0, mr0, mr1, mr2, mk1, mn1, mk2, mn2, mk3, mn3, mcs⟩ := hS'
  obtain ⟨nk0, nr0, nr1, nr2, nk1, nn1, nk2, nn2, nk3, nn3, ncs⟩ := hS2
  have hw : ∀ d, d < 8 → σ (62 * d + 4) ≤ 4 ∧ σ (62 * d) ≤ 16 := fun d hd => ⟨(hg.1.2.2.1 d hd).2.2.2.2.1, (hg.1.2.2.1 d hd).1⟩
  obtain ⟨⟨s1, s2, s3, s4⟩, s5⟩ := hK
  have loop : ∀ k i W, i + k = 8 → kOut V W mb → (∀ c, c < i → kC W (mb + (4 + 5 * c)) σ c) → ∃ W', kOut V W' mb ∧ (∀ c, c < 8 → kC W' (mb + (4 + 5 * c)) σ c) ∧ ∀ Q : Option Value → xSh → xV → Prop, xX E mX2_copyFrom 2 [some (.ref mb), some (.ref nb), some (.int (nI i))] [] S W Q ↔ xX E mX2_copyFrom 29 [some (.ref mb), some (.ref nb), some (.int (nI 8))] [] S W' Q := by
    intro k
    induction k with
    | zero =>
      intro i W hi ho hc
      have hi : i = 8 := by omega
      subst hi
      refine ⟨W, ho, hc, fun Q => ?_⟩
      simp (disch := (first | assumption | exact xnl_i _ | exact xnl_r _ | exact xnl_n | exact Bool.toNat_lt _ | exact hb _ | exact hb2 _ | omega | exact Nat.le_of_ble_eq_true rfl | rfl | decide)) only [pX2_copyFrom_2, pX2_copyFrom_3, pX2_copyFrom_5, nI_add, pk_mul, xn_sub, xn_and, xn_or, xn_xor, xn_shl, xn_shr, xn_lt, xn_le, xn_eq, xrf_some, xup_eq, xup_ne, xrow_eq, xrow_ne, Option.toList_some, Option.toList_none, List.singleton_append, List.nil_append, List.cons_append, xnl_n, xnl_i, xnl_r, Nat.zero_add, Nat.add_zero, ↓reduceIte, Nat.reduceEqDiff, Nat.reduceLeDiff, Nat.reduceAdd, Nat.reduceMul, Nat.reduceLT, Nat.one_ne_zero, eq_self, not_true_eq_false, not_false_eq_true, and_self]
    | succ k ih =>
      intro i W hi ho hc
      have h8 : ¬ 8 ≤ i := by omega
      have hi8 : i < 8 := by omega
      obtain ⟨mri, his⟩ := mcs i hi8
      obtain ⟨nri, hns⟩ := ncs i hi8
      have ik0 := his.1
      have jk0 := hns.1
      have hsrc : kC W (nb + (4 + 5 * i)) σ i := kC_o (s1 i hi8) (fun a h1 h2 => ho a (by omega))
      obtain ⟨W1, q1, q2, q3⟩ := k_copyC (E := E) his hns hsrc (by omega) (hw i hi8).2 (hw i hi8).1
      obtain ⟨W', g1, g2, g3⟩ := ih (i + 1) W1 (by omega) (kOut_t ho (kOut_c hi8 q2)) (fun c hcc => by
        by_cases hci : c = i
        · subst hci; exact q1
        · exact kC_o (hc c (by omega)) (fun a h1 h2 => q2 a (by omega)))
      refine ⟨W', g1, g2, fun Q => ?_⟩
      rw [← g3, pX2_copyFrom_2]
      simp (disch := (first | assumption | exact xnl_i _ | exact xnl_r _ | exact xnl_n | exact Bool.toNat_lt _ | exact hb _ | exact hb2 _ | omega | exact Nat.le_of_ble_eq_true rfl | rfl | decide)) only [pX2_copyFrom_3, pX2_copyFrom_5, pX2_copyFrom_8, pX2_copyFrom_9, pX2_copyFrom_12, pX2_copyFrom_13, pX2_copyFrom_14, pX2_copyFrom_15, pX2_copyFrom_18, pX2_copyFrom_19, pX2_copyFrom_20, pX2_copyFrom_23, pX2_copyFrom_26, nI_add, pk_mul, xn_sub, xn_and, xn_or, xn_xor, xn_shl, xn_shr, xn_lt, xn_le, xn_eq, xrf_some, xup_eq, xup_ne, xrow_eq, xrow_ne, Option.toList_some, Option.toList_none, List.singleton_append, List.nil_append, List.cons_append, xnl_n, xnl_i, xnl_r, Nat.zero_add, Nat.add_zero, ↓reduceIte, Nat.reduceEqDiff, Nat.reduceLeDiff, Nat.reduceAdd, Nat.reduceMul, Nat.reduceLT, Nat.one_ne_zero, eq_self, not_true_eq_false, not_false_eq_true, and_self, mk0, mr0, mr1, mr2, nk0, nr0, nr1, nr2, h8, mri, nri, q3]
  obtain ⟨W, w1, w2, w3⟩ := loop 8 0 V rfl kOut_r (fun c hc => by omega)
  have t3 : W nb 3 = nI (σ 496) := by rw [w1 nb (by omega)]; exact s5
  have t4 : W nb 4 = nI (psum σ 13 8) := by rw [w1 nb (by omega)]; exact s3
  have t5 : W nb 5 = nI (psum σ 12 8) := by rw [w1 nb (by omega)]; exact s4
  refine ⟨xup (xup (xup (xrow W (mb + 2) (va_cpy (W (nb + 2)) (W (mb + 2)) 0 0 4)) mb 3 (nI (σ 496))) mb 4 (nI (psum σ 13 8))) mb 5 (nI (psum σ 12 8)), ⟨⟨fun c hc => kC_o (w2 c hc) (fun a h1 h2 => by rw [xup_rn (by omega), xup_rn (by omega), xup_rn (by omega), xrow_rn (by omega)]), fun k hk => ?_, ?_, xup_eq⟩, ?_⟩, kOut_t w1 (kOut_t (kOut_row (by omega)) (kOut_t (kOut_up (by omega)) (kOut_t (kOut_up (by omega)) (kOut_up (by omega))))), fun Q => ?_⟩
  · rw [xup_ne (by omega), xup_ne (by omega), xup_ne (by omega), xrow_eq, pk_cpy_in (by omega) (by omega), show 0 + (k - 0) = k by omega, w1 (nb + 2) (by omega)]
    exact s2 k hk
  · rw [xup_ne (by omega), xup_eq]
  · rw [xup_ne (by omega), xup_ne (by omega), xup_eq]
  · show xX E mX2_copyFrom 0 [some (.ref mb), some (.ref nb), none] [] S V Q ↔ _
    simp (disch := (first | assumption | exact xnl_i _ | exact xnl_r _ | exact xnl_n | exact Bool.toNat_lt _ | exact hb _ | exact hb2 _ | omega | exact Nat.le_of_ble_eq_true rfl | rfl | decide)) only [pX2_copyFrom_0, pX2_copyFrom_1, nI_add, pk_mul, xn_sub, xn_and, xn_or, xn_xor, xn_shl, xn_shr, xn_lt, xn_le, xn_eq, xrf_some, xup_eq, xup_ne, xrow_eq, xrow_ne, Option.toList_some, Option.toList_none, List.singleton_append, List.nil_append, List.cons_append, xnl_n, xnl_i, xnl_r, Nat.zero_add, Nat.add_zero, ↓reduceIte, Nat.reduceEqDiff, Nat.reduceLeDiff, Nat.reduceAdd, Nat.reduceMul, Nat.reduceLT, Nat.one_ne_zero, eq_self, not_true_eq_false, not_false_eq_true, and_self, w3]
    simp (disch := (first | assumption | exact xnl_i _ | exact xnl_r _ | exact xnl_n | exact Bool.toNat_lt _ | exact hb _ | exact hb2 _ | omega | exact Nat.le_of_ble_eq_true rfl | rfl | decide)) only [pX2_copyFrom_29, pX2_copyFrom_30, pX2_copyFrom_33, pX2_copyFrom_34, pX2_copyFrom_35, pX2_copyFrom_38, pX2_copyFrom_39, pX2_copyFrom_40, pX2_copyFrom_43, pX2_copyFrom_44, pX2_copyFrom_45, pX2_copyFrom_48, pX2_copyFrom_51, pX2_copyFrom_52, pX2_copyFrom_53, pX2_copyFrom_56, pX2_copyFrom_59, pX2_copyFrom_60, pX2_copyFrom_61, pX2_copyFrom_64, pX2_copyFrom_67, nI_add, pk_mul, xn_sub, xn_and, xn_or, xn_xor, xn_shl, xn_shr, xn_lt, xn_le, xn_eq, xrf_some, xup_eq, xup_ne, xrow_eq, xrow_ne, Option.toList_some, Option.toList_none, List.singleton_append, List.nil_append, List.cons_append, xnl_n, xnl_i, xnl_r, Nat.zero_add, Nat.add_zero, ↓reduceIte, Nat.reduceEqDiff, Nat.reduceLeDiff, Nat.reduceAdd, Nat.reduceMul, Nat.reduceLT, Nat.one_ne_zero, eq_self, not_true_eq_false, not_false_eq_true, and_self, mk0, mr0, mr1, mr2, nk0, nr0, nr1, nr2, t3, t4, t5, xrow_rn]
end KUN

