/-! ===== the reference: states, who waits for whom ===== -/
section MST
variable {E : Nat × Nat × Nat} {S : xSh} {V : xV} {Q : Option Value → xSh → xV → Prop} {t : Nat} {σ : Nat → Nat}
theorem wf_b (hw : wf σ) (i : Nat) : σ i < 2147483648 := Nat.lt_of_le_of_lt (hw.1 i) (by decide)
end MST


/-! ===== the reference: who waits for whom, further on; lent priorities ===== -/
section MWT
variable {E : Nat × Nat × Nat} {S : xSh} {V : xV} {Q : Option Value → xSh → xV → Prop} {t : Nat} {σ : Nat → Nat}
theorem psends_lim {σ : Nat → Nat} {c to n k : Nat} (h : σ (62 * c + 1) + n + k = σ (62 * c)) : psends σ c to = psend σ c to (σ (62 * c + 1)) (n + k) := by
  unfold psends
  rw [show σ (62 * c) - σ (62 * c + 1) = n + k by omega]
theorem bm_s (P : Nat → Bool) (n : Nat) : bm P (n + 1) = bm P n ||| (if P n = true then 2 ^ n else 0) := rfl
theorem tb_and (f o : Nat) : (f / 2 ^ o &&& 1 = 1) ↔ f.testBit o = true := by
  rw [Nat.and_one_is_mod, Nat.testBit_eq_decide_div_mod_eq, decide_eq_true_eq]
end MWT


/-! ===== the reference: who waits for whom by way of others ===== -/
section MFR
variable {E : Nat × Nat × Nat} {S : xSh} {V : xV} {Q : Option Value → xSh → xV → Prop} {t : Nat} {σ : Nat → Nat}
theorem pst_arg (hw : wf σ) {c : Nat} (hc : c < 8) : (pst σ c = 5 → parg σ c (σ (62 * c + 1)) ≤ 7) ∧ (pst σ c = 3 → parg σ c (σ (62 * c + 1)) ≤ 3 ∧ 0 < σ (497 + parg σ c (σ (62 * c + 1)))) := by
  obtain ⟨w1, w2, w3, w4, w5, w6, w7, w8, w9⟩ := hw.2.1 c hc
  have hok := fun h => (w9 (σ (62 * c + 1)) h).1
  unfold pst
  by_cases h0 : σ (62 * c) ≤ σ (62 * c + 1)
  · simp [h0]
  · have hok := hok (by omega)
    by_cases h1 : 0 < σ (62 * c + 9)
    · simp [h0, h1]
    · rw [if_neg h0, if_neg h1]
      unfold pok at hok
      by_cases h2 : pcmd σ c (σ (62 * c + 1)) = 1
      · rw [if_pos h2]
        refine ⟨fun _ => by omega, fun h => ?_⟩
        split at h <;> omega
      · rw [if_neg h2]
        by_cases h3 : pcmd σ c (σ (62 * c + 1)) = 2
        · rw [if_pos h3]
          refine ⟨fun h => ?_, fun h => ?_⟩ <;> split at h <;> omega
        · rw [if_neg h3]
          by_cases h4 : pcmd σ c (σ (62 * c + 1)) = 3
          · rw [if_pos h4]
            refine ⟨fun h => ?_, fun h => ?_⟩
            · split at h <;> omega
            · split at h
              · rename_i h5; exact ⟨by omega, h5⟩
              · omega
          · rw [if_neg h4]
            exact ⟨fun h => by omega, fun h => by omega⟩
theorem pow_lt256 {k : Nat} (h : k ≤ 7) : 2 ^ k < 256 := Nat.lt_of_le_of_lt (Nat.pow_le_pow_right (by decide) h) (by decide)
theorem pwait_lt (hw : wf σ) {c : Nat} (hc : c < 8) : pwait σ c < 256 := by
  obtain ⟨h5, h3⟩ := pst_arg hw hc
  unfold pwait
  by_cases e5 : pst σ c = 5
  · rw [if_pos e5]; exact pow_lt256 (h5 e5)
  · rw [if_neg e5]
    by_cases e3 : pst σ c = 3
    · rw [if_pos e3]
      have := h3 e3
      have := hw.2.2 _ (show parg σ c (σ (62 * c + 1)) < 4 by omega)
      exact pow_lt256 (by omega)
    · rw [if_neg e3]
      split
      · exact bm_lt _ 8
      · decide
theorem fto_lt {w : Nat → Nat} (h : ∀ i, i < 8 → w i < 256) (i : Nat) : fto w (fun _ => 0) 8 i < 256 := by
  unfold fto; split
  · exact h i (by assumption)
  · exact Nat.zero_lt_succ _
theorem fstep_lt {c o : Nat} {f : Nat → Nat} (h : ∀ i, f i < 256) : ∀ i, fstep c o f i < 256 := by
  intro i
  unfold fstep su
  split
  · refine Nat.or_lt_two_pow (n := 8) (h c) ?_
    split
    · exact h o
    · decide
  · exact h i
theorem itN_in {α : Type} {P : α → Prop} {g : Nat → α → α} (hg : ∀ n x, P x → P (g n x)) : ∀ n x, P x → P (itN g n x) := by
  intro n
  induction n with
  | zero => intro x h; exact h
  | succ n ih => intro x h; exact hg n _ (ih x h)
theorem fctx_lt {c : Nat} {f : Nat → Nat} (h : ∀ i, f i < 256) : ∀ i, fctx c f i < 256 := itN_in (P := fun f : Nat → Nat => ∀ i, f i < 256) (g := fun o f => fstep c o f) (fun _ _ hf => fstep_lt hf) 8 f h
theorem frnd_lt {f : Nat → Nat} (h : ∀ i, f i < 256) : ∀ i, frnd f i < 256 := itN_in (P := fun f : Nat → Nat => ∀ i, f i < 256) (g := fctx) (fun _ _ hf => fctx_lt hf) 8 f h
theorem ffar_lt {w : Nat → Nat} (h : ∀ i, w i < 256) : ∀ i, ffar w i < 256 := itN_in (P := fun f : Nat → Nat => ∀ i, f i < 256) (g := fun _ f => frnd f) (fun _ _ hf => frnd_lt hf) 8 w h
theorem pfar_lt (hw : wf σ) (c : Nat) : pfar σ c < 256 := ffar_lt (fto_lt (fun i hi => pwait_lt hw hi)) c
end MFR


/-! ===== the reference: sets of contexts; what a command does; a state laid whole ===== -/
section MRN
variable {E : Nat × Nat × Nat} {S : xSh} {V : xV} {Q : Option Value → xSh → xV → Prop} {t : Nat} {σ : Nat → Nat}
theorem su_same {i : Nat} : su σ i (σ i) = σ := by
  funext j; unfold su; split
  · rename_i h; rw [h]
  · rfl
end MRN


/-! ===== the reference: who runs; a slot ===== -/
theorem xn_ne6 {c : Nat} (h : c < 8) : ¬ nI c = -6 := by
  have : ∀ c : Nat, c < 8 → ¬ nI c = -6 := by decide +kernel
  exact this c h
theorem plent_lt {σ : Nat → Nat} (hb : ∀ i, σ i < 2147483648) (c : Nat) : plent σ c < 2147483648 := by
  have : ∀ i, plentN σ (pfar σ) c i < 2147483648 := by
    intro i
    induction i with
    | zero => exact hb _
    | succ n ihn => unfold plentN; split; exact hb _; exact ihn
  exact this 8
theorem pbest_1 {σ : Nat → Nat} {own : Nat} : ∀ {k c}, pbest σ own k = some c → c < 8 ∧ pst σ c = 1 := by
  intro k
  induction k with
  | zero => intro c h; cases h
  | succ k ih =>
    intro c h
    unfold pbest at h
    split at h
    · rename_i h2; cases h; exact ⟨Nat.mod_lt _ (by decide), h2.1⟩
    · exact ih h
theorem prunner_1 {σ : Nat → Nat} {own c : Nat} (ho : own < 8) (h : prunner σ own = some c) : c < 8 ∧ pst σ c = 1 := by
  unfold prunner at h
  split at h
  · rename_i h2; cases h; exact ⟨ho, h2⟩
  · exact pbest_1 h
theorem pst_1 {σ : Nat → Nat} {c : Nat} (h : pst σ c = 1) : σ (62 * c + 1) < σ (62 * c) ∧ σ (62 * c + 9) = 0 ∧ (pcmd σ c (σ (62 * c + 1)) = 1 → ¬ σ (62 * parg σ c (σ (62 * c + 1)) + 4) = 4) ∧ (pcmd σ c (σ (62 * c + 1)) = 2 → 0 < σ (62 * c + 4)) ∧ (pcmd σ c (σ (62 * c + 1)) = 3 → σ (497 + parg σ c (σ (62 * c + 1))) = 0) := by
  unfold pst at h
  by_cases h0 : σ (62 * c) ≤ σ (62 * c + 1)
  · rw [if_pos h0] at h; omega
  · rw [if_neg h0] at h
    by_cases h1 : 0 < σ (62 * c + 9)
    · rw [if_pos h1] at h; omega
    · rw [if_neg h1] at h
      refine ⟨by omega, by omega, fun e => ?_, fun e => ?_, fun e => ?_⟩
      · rw [if_pos e] at h; intro z; rw [if_pos z] at h; omega
      · rw [if_neg (by omega), if_pos e] at h
        by_cases z : σ (62 * c + 4) = 0
        · rw [if_pos z] at h; omega
        · omega
      · rw [if_neg (by omega), if_neg (by omega), if_pos e] at h
        by_cases z : 0 < σ (497 + parg σ c (σ (62 * c + 1)))
        · rw [if_pos z] at h; omega
        · omega
theorem pwakes_at (σ : Nat → Nat) : ∀ n i, itN (fun c τ => su τ (62 * c + 9) (τ (62 * c + 9) - 1)) n σ i = if ∃ c, c < n ∧ i = 62 * c + 9 then σ i - 1 else σ i := by
  intro n
  induction n with
  | zero => intro i; rw [if_neg (fun ⟨c, h, _⟩ => by omega)]; rfl
  | succ n ih =>
    intro i
    rw [itN_s]
    by_cases h : i = 62 * n + 9
    · subst h
      rw [su_eq, ih, if_neg (fun ⟨c, h1, h2⟩ => by omega), if_pos ⟨n, by omega, rfl⟩]
    · rw [su_ne h, ih]
      by_cases h2 : ∃ c, c < n ∧ i = 62 * c + 9
      · obtain ⟨c, h3, h4⟩ := h2
        rw [if_pos ⟨c, h3, h4⟩, if_pos ⟨c, by omega, h4⟩]
      · rw [if_neg h2, if_neg (fun ⟨c, h3, h4⟩ => h2 ⟨c, by omega, h4⟩)]
theorem pwakes_9 {σ : Nat → Nat} {c : Nat} (hc : c < 8) : pwakes σ (62 * c + 9) = σ (62 * c + 9) - 1 := by
  unfold pwakes; rw [pwakes_at, if_pos ⟨c, hc, rfl⟩]
theorem pwakes_o {σ : Nat → Nat} {i : Nat} (h : ∀ c, c < 8 → ¬ i = 62 * c + 9) : pwakes σ i = σ i := by
  unfold pwakes; rw [pwakes_at, if_neg (fun ⟨c, h1, h2⟩ => h c h1 h2)]
theorem pwakes_c {σ : Nat → Nat} {c j : Nat} (hc : c < 8) (hj : j < 62) (h : ¬ j = 9) : pwakes σ (62 * c + j) = σ (62 * c + j) := pwakes_o (fun d _ => by omega)
theorem pwakes_c0 {σ : Nat → Nat} {c : Nat} (hc : c < 8) : pwakes σ (62 * c) = σ (62 * c) := pwakes_o (fun d _ => by omega)
theorem pwakes_u {σ : Nat → Nat} {j : Nat} (h : 496 ≤ j) : pwakes σ j = σ j := pwakes_o (fun d _ => by omega)
theorem pwakes_le {σ : Nat → Nat} (i : Nat) : pwakes σ i ≤ σ i := by
  unfold pwakes; rw [pwakes_at]; split <;> omega
theorem wf_wakes {σ : Nat → Nat} (hw : wf σ) : wf (pwakes σ) := by
  refine ⟨fun i => Nat.le_trans (pwakes_le i) (hw.1 i), fun c hc => ?_, fun k hk => by rw [pwakes_u (by omega)]; exact hw.2.2 k hk⟩
  obtain ⟨w1, w2, w3, w4, w5, w6, w7, w8, w9⟩ := hw.2.1 c hc
  have e : ∀ j, j < 62 → ¬ j = 9 → pwakes σ (62 * c + j) = σ (62 * c + j) := fun j h1 h2 => pwakes_c hc h1 h2
  have e0 : pwakes σ (62 * c) = σ (62 * c) := pwakes_c0 hc
  have e496 : pwakes σ 496 = σ 496 := pwakes_u (by omega)
  refine ⟨by rw [e0]; exact w1, by rw [e0, e 1 (by omega) (by omega)]; exact w2, by rw [e 2 (by omega) (by omega)]; exact w3, by rw [e 3 (by omega) (by omega)]; exact w4, by rw [e 4 (by omega) (by omega)]; exact w5, fun j hj => by rw [e (5 + j) (by omega) (by omega)]; exact w6 j hj, Nat.le_trans (pwakes_le _) w7, fun j hj => by rw [e (10 + j) (by omega) (by omega), e496]; exact w8 j hj, fun p hp => ?_⟩
  rw [e0] at hp
  obtain ⟨g1, g2⟩ := w9 p hp
  unfold pcmd parg at g1 ⊢
  rw [e (14 + 3 * p) (by omega) (by omega), e (14 + 3 * p + 1) (by omega) (by omega), e (14 + 3 * p + 2) (by omega) (by omega)]
  exact ⟨g1, g2⟩
theorem pacct_o {σ : Nat → Nat} {own i : Nat} {r : Option Nat} (ho : own < 8) (hr : ∀ c, r = some c → c < 8) (h : ∀ c j, c < 8 → j < 4 → ¬ i = 62 * c + (10 + j)) : pacct σ own r i = σ i := by
  cases r with
  | none => exact su_ne (h own 3 ho (by decide))
  | some c =>
    have hc := hr c rfl
    show (if c = own then _ else _ : Nat → Nat) i = _
    split
    · exact su_ne (h own 0 ho (by decide))
    · rw [su_ne (h c 1 hc (by decide)), su_ne (h own 2 ho (by decide))]
theorem pacct_own {σ : Nat → Nat} {c : Nat} : pacct σ c (some c) = su σ (62 * c + 10) (σ (62 * c + 10) + 1) := if_pos rfl
theorem pacct_oth {σ : Nat → Nat} {own c : Nat} (h : ¬ c = own) : pacct σ own (some c) = su (su σ (62 * own + 12) (σ (62 * own + 12) + 1)) (62 * c + 11) (σ (62 * c + 11) + 1) := if_neg h

/-! ===== the reference: sets and sums over the contexts ===== -/
def psum (σ : Nat → Nat) (w : Nat) : Nat → Nat
  | 0 => 0
  | n + 1 => psum σ w n + σ (62 * n + w)
def pcnt (s : Nat) : Nat → Nat
  | 0 => 0
  | n + 1 => pcnt s n + (if s.testBit n = true then 1 else 0)
def prings (σ : Nat → Nat) : Nat := bm (fun c => (pfar σ c).testBit c) 8
theorem pst_le (σ : Nat → Nat) (c : Nat) : pst σ c ≤ 5 := by
  unfold pst
  repeat' split
  all_goals omega
theorem pst_lt (σ : Nat → Nat) (c : Nat) : pst σ c < 2147483648 := by have := pst_le σ c; omega
theorem bm_lt8 (P : Nat → Bool) : bm P 8 < 2147483648 := Nat.lt_trans (bm_lt P 8) (by decide)
theorem bm_0 {P : Nat → Bool} : ∀ {n}, bm P n = 0 ↔ ∀ i, i < n → P i = false := by
  intro n
  constructor
  · intro h i hi
    have := bm_bit P n i
    rw [h, Nat.zero_testBit] at this
    simp [hi] at this
    exact this
  · intro h
    apply Nat.eq_of_testBit_eq
    intro i
    rw [bm_bit, Nat.zero_testBit]
    by_cases hi : i < n
    · simp [h i hi]
    · simp [hi]
theorem tb_and1 (f o : Nat) : f / 2 ^ o &&& 1 = if f.testBit o = true then 1 else 0 := by
  by_cases h : f.testBit o = true
  · rw [if_pos h]; exact (tb_and f o).mpr h
  · rw [if_neg h]
    have hz : ¬ f / 2 ^ o &&& 1 = 1 := fun z => h ((tb_and f o).mp z)
    generalize f / 2 ^ o = x at hz ⊢
    rw [Nat.and_one_is_mod] at hz ⊢
    omega

