/-! ===== who waits for whom: what must hold of a state that is well ===== -/
section HOP
variable {σ f : Nat → Nat} {c e k n : Nat}
theorem pwait_lo (h : pst σ c < 3) : pwait σ c = 0 := by
  unfold pwait; rw [if_neg (by omega), if_neg (by omega), if_neg (by omega)]
theorem plentN_ge : ∀ n, σ (62 * c + 3) ≤ plentN σ f c n := by
  intro n
  induction n with
  | zero => exact Nat.le_refl _
  | succ n ih =>
    unfold plentN
    split
    · rename_i h; omega
    · exact ih
theorem plentN_in (h : (f k).testBit c = true) : ∀ n, k < n → σ (62 * k + 3) ≤ plentN σ f c n := by
  intro n
  induction n with
  | zero => intro hk; omega
  | succ n ih =>
    intro hk
    unfold plentN
    by_cases hkn : k = n
    · subst hkn
      split
      · exact Nat.le_refl _
      · rename_i h2
        exact Nat.not_lt.mp (fun z => h2 ⟨h, z⟩)
    · have := ih (by omega)
      split
      · rename_i h2; omega
      · exact this
theorem plent_ge : σ (62 * c + 3) ≤ plent σ c := plentN_ge 8
theorem pwait_far (hk : k < 8) (h : (pwait σ k).testBit e = true) : (pfar σ k).testBit e = true := by
  have h1 : rl (war (fto (pwait σ) (fun _ => 0) 8)) k e := war_mono hk (by unfold rl fto; rw [if_pos hk]; exact h) 8
  unfold rl at h1
  rw [war_far hk] at h1
  exact h1
theorem pwait_lent (hk : k < 8) (h : (pwait σ k).testBit e = true) : σ (62 * k + 3) ≤ plent σ e := plentN_in (pwait_far hk h) 8 hk
theorem far_tr {i m j : Nat} (hi : i < 8) (hm : m < 8) (h1 : (pfar σ i).testBit m = true) (h2 : (pfar σ m).testBit j = true) : (pfar σ i).testBit j = true := by
  unfold pfar at h1 h2 ⊢
  rw [← war_far hi] at h1 ⊢
  rw [← war_far hm] at h2
  exact war_tr 8 (Nat.le_refl _) m i j hm hi h1 h2
theorem bit_some {x : Nat} (h : ¬ x = 0) (hx : x < 256) : ∃ i, i < 8 ∧ x.testBit i = true := by
  apply Classical.byContradiction
  intro z
  apply h
  apply Nat.eq_of_testBit_eq
  intro i
  rw [Nat.zero_testBit]
  by_cases hi : i < 8
  · cases hb : x.testBit i with
    | false => rfl
    | true => exact absurd ⟨i, hi, hb⟩ z
  · exact Nat.testBit_lt_two_pow (Nat.lt_of_lt_of_le hx (Nat.pow_le_pow_right (n := 2) (i := 8) (by decide) (by omega)))
/-- who is stuck: one waits for nobody, in a ring, or for one that is done -/
theorem stuck_hope (hw : wf σ) (hs : pstuck σ = true) : ∃ k, k < 8 ∧ 2 < pst σ k ∧ (pwait σ k = 0 ∨ (pfar σ k).testBit k = true ∨ ∃ e, e < 8 ∧ (pwait σ k).testBit e = true ∧ pst σ e = 0) := by
  apply Classical.byContradiction
  intro hz
  obtain ⟨⟨c0, hc0, hn0⟩, hno⟩ := pstuck_iff.mp hs
  have big : ∀ c, c < 8 → ¬ pst σ c = 0 → 2 < pst σ c := fun c hc h => by have := hno c hc; omega
  have next : ∀ k, k < 8 → 2 < pst σ k → ∃ e, e < 8 ∧ 2 < pst σ e ∧ (pfar σ k).testBit e = true := by
    intro k hk h2
    have h0 : ¬ pwait σ k = 0 := fun z => hz ⟨k, hk, h2, Or.inl z⟩
    obtain ⟨e, he, hb⟩ := bit_some h0 (pwait_lt hw hk)
    exact ⟨e, he, big e he (fun z => hz ⟨k, hk, h2, Or.inr (Or.inr ⟨e, he, hb, z⟩)⟩), pwait_far hk hb⟩
  have irr : ∀ k, k < 8 → 2 < pst σ k → ¬ (pfar σ k).testBit k = true := fun k hk h2 z => hz ⟨k, hk, h2, Or.inr (Or.inl z)⟩
  have last : ∀ n, n ≤ 8 → ∃ c, c < 8 ∧ 2 < pst σ c ∧ ∀ d, d < n → 2 < pst σ d → ¬ (pfar σ c).testBit d = true := by
    intro n
    induction n with
    | zero => intro _; exact ⟨c0, hc0, big c0 hc0 hn0, fun d hd => by omega⟩
    | succ n ih =>
      intro hn
      obtain ⟨c, hc, h2, hall⟩ := ih (by omega)
      by_cases hcn : 2 < pst σ n ∧ (pfar σ c).testBit n = true
      · refine ⟨n, by omega, hcn.1, fun d hd hd2 hb => ?_⟩
        by_cases hdn : d = n
        · subst hdn; exact irr d (by omega) hd2 hb
        · exact hall d (by omega) hd2 (far_tr hc (by omega) hcn.2 hb)
      · refine ⟨c, hc, h2, fun d hd hd2 hb => ?_⟩
        by_cases hdn : d = n
        · subst hdn; exact hcn ⟨hd2, hb⟩
        · exact hall d (by omega) hd2 hb
  obtain ⟨c, hc, h2, hall⟩ := last 8 (Nat.le_refl _)
  obtain ⟨e, he, he2, hb⟩ := next c hc h2
  exact hall e he he2 hb
theorem pcnt_le (s : Nat) : ∀ n, pcnt s n ≤ n := by
  intro n
  induction n with
  | zero => exact Nat.le_refl _
  | succ n ih => unfold pcnt; split <;> omega
theorem pcnt_all (s : Nat) : ∀ n, pcnt s n = n ↔ ∀ i, i < n → s.testBit i = true := by
  intro n
  induction n with
  | zero => exact ⟨fun _ i hi => by omega, fun _ => rfl⟩
  | succ n ih =>
    have hle := pcnt_le s n
    unfold pcnt
    by_cases hb : s.testBit n = true
    · rw [if_pos hb]
      constructor
      · intro h i hi
        by_cases hin : i = n
        · rw [hin]; exact hb
        · exact ih.mp (by omega) i (by omega)
      · intro h
        have := ih.mpr (fun i hi => h i (by omega))
        omega
    · rw [if_neg hb]
      constructor
      · intro h; omega
      · intro h; exact absurd (h n (Nat.lt_succ_self n)) hb
theorem pst_stuck : pstuck σ = true ↔ pcnt (pin σ 0) 8 < 8 ∧ pin σ 1 = 0 ∧ ∀ c, c < 8 → ¬ pst σ c = 2 := by
  rw [pstuck_iff]
  have h1 : pin σ 1 = 0 ↔ ∀ c, c < 8 → ¬ pst σ c = 1 := by
    unfold pin
    rw [bm_0]
    constructor
    · intro h c hc; have := h c hc; simpa using this
    · intro h c hc; simpa using h c hc
  have h0 : pcnt (pin σ 0) 8 < 8 ↔ ∃ c, c < 8 ∧ ¬ pst σ c = 0 := by
    have hle := pcnt_le (pin σ 0) 8
    have hall := pcnt_all (pin σ 0) 8
    constructor
    · intro h
      apply Classical.byContradiction
      intro z
      have : pcnt (pin σ 0) 8 = 8 := hall.mpr (fun i hi => by
        rw [pin_bit]
        have : pst σ i = 0 := Classical.byContradiction (fun z2 => z ⟨i, hi, z2⟩)
        simp [hi, this])
      omega
    · rintro ⟨c, hc, hn⟩
      have : ¬ pcnt (pin σ 0) 8 = 8 := fun z => by
        have := hall.mp z c hc
        rw [pin_bit] at this
        simp [hc, hn] at this
      omega
  rw [h0, h1]
  constructor
  · rintro ⟨a, b⟩; exact ⟨a, fun c hc => (b c hc).1, fun c hc => (b c hc).2⟩
  · rintro ⟨a, b, d⟩; exact ⟨a, fun c hc => ⟨b c hc, d c hc⟩⟩
end HOP
