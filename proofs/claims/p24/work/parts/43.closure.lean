/-! ===== for whom one waits by way of others: two ways to find it are one ===== -/
def rl (f : Nat → Nat) (i j : Nat) : Prop := (f i).testBit j = true
theorem fstep_rl {f : Nat → Nat} {c o i j : Nat} : rl (fstep c o f) i j ↔ rl f i j ∨ (i = c ∧ rl f c o ∧ rl f o j) := by
  unfold rl fstep su
  by_cases hi : i = c
  · subst hi
    rw [if_pos rfl, Nat.testBit_or]
    by_cases h : (f i).testBit o = true
    · rw [if_pos h]; simp [h]
    · rw [if_neg h]; simp [h]
  · rw [if_neg hi]; simp [hi]
def wrnd (k : Nat) (f : Nat → Nat) : Nat → Nat := itN (fun c f => fstep c k f) 8 f
def war (w : Nat → Nat) : Nat → Nat := itN wrnd 8 w
theorem wrnd_n {f : Nat → Nat} {k : Nat} : ∀ n i j, rl (itN (fun c f => fstep c k f) n f) i j ↔ rl f i j ∨ (i < n ∧ rl f i k ∧ rl f k j) := by
  intro n
  induction n with
  | zero => intro i j; rw [itN_0]; constructor
            · exact Or.inl
            · rintro (h | ⟨h, _⟩)
              · exact h
              · omega
  | succ n ih =>
    intro i j
    rw [itN_s, fstep_rl, ih, ih, ih]
    constructor
    · rintro ((h | ⟨h1, h2, h3⟩) | ⟨h1, h2, h3⟩)
      · exact Or.inl h
      · exact Or.inr ⟨by omega, h2, h3⟩
      · subst h1
        have a : rl f i k := by rcases h2 with h | ⟨h, _⟩; exact h; omega
        have b : rl f k j := by rcases h3 with h | ⟨_, _, h⟩; exact h; exact h
        exact Or.inr ⟨by omega, a, b⟩
    · rintro (h | ⟨h1, h2, h3⟩)
      · exact Or.inl (Or.inl h)
      · by_cases hi : i = n
        · subst hi; exact Or.inr ⟨rfl, Or.inl h2, Or.inl h3⟩
        · exact Or.inl (Or.inr ⟨by omega, h2, h3⟩)
theorem wrnd_rl {f : Nat → Nat} {k i j : Nat} (hi : i < 8) : rl (wrnd k f) i j ↔ rl f i j ∨ (rl f i k ∧ rl f k j) := by
  unfold wrnd
  rw [wrnd_n]
  constructor
  · rintro (h | ⟨_, h⟩)
    · exact Or.inl h
    · exact Or.inr h
  · rintro (h | h)
    · exact Or.inl h
    · exact Or.inr ⟨hi, h⟩
theorem war_tr {w : Nat → Nat} : ∀ n, n ≤ 8 → ∀ m i j, m < n → i < 8 → rl (itN wrnd n w) i m → rl (itN wrnd n w) m j → rl (itN wrnd n w) i j := by
  intro n
  induction n with
  | zero => intro _ m i j h; omega
  | succ n ih =>
    intro hn m i j hm hi h1 h2
    have IH := ih (by omega)
    rw [itN_s] at h1 h2 ⊢
    have hm8 : m < 8 := by omega
    rw [wrnd_rl hi] at h1 ⊢
    rw [wrnd_rl hm8] at h2
    generalize itN wrnd n w = f at IH h1 h2 ⊢
    by_cases hmn : m = n
    · subst hmn
      have a : rl f i m := by rcases h1 with h | ⟨h, _⟩; exact h; exact h
      have b : rl f m j := by rcases h2 with h | ⟨_, h⟩; exact h; exact h
      exact Or.inr ⟨a, b⟩
    · have hmn : m < n := by omega
      have hn8 : n < 8 := by omega
      rcases h1 with h1 | ⟨h1, h1'⟩
      · rcases h2 with h2 | ⟨h2, h2'⟩
        · exact Or.inl (IH m i j hmn hi h1 h2)
        · exact Or.inr ⟨IH m i n hmn hi h1 h2, h2'⟩
      · rcases h2 with h2 | ⟨h2, h2'⟩
        · exact Or.inr ⟨h1, IH m n j hmn hn8 h1' h2⟩
        · exact Or.inr ⟨h1, h2'⟩
theorem war_mono {w : Nat → Nat} {i j : Nat} (hi : i < 8) (h : rl w i j) : ∀ n, rl (itN wrnd n w) i j := by
  intro n
  induction n with
  | zero => exact h
  | succ n ih => rw [itN_s, wrnd_rl hi]; exact Or.inl ih
theorem fctx_n {f : Nat → Nat} {c : Nat} : ∀ n i j, rl f i j → rl (itN (fun o f => fstep c o f) n f) i j := by
  intro n
  induction n with
  | zero => intro i j h; exact h
  | succ n ih => intro i j h; rw [itN_s, fstep_rl]; exact Or.inl (ih i j h)
theorem fctx_in {f : Nat → Nat} {c r j : Nat} (h1 : rl f c r) (h2 : rl f r j) : ∀ n, r < n → rl (itN (fun o f => fstep c o f) n f) c j := by
  intro n
  induction n with
  | zero => intro h; omega
  | succ n ih =>
    intro h
    rw [itN_s, fstep_rl]
    by_cases hr : r = n
    · subst hr; exact Or.inr ⟨rfl, fctx_n r c r h1, fctx_n r r j h2⟩
    · exact Or.inl (ih (by omega))
theorem frnd_n {f : Nat → Nat} : ∀ n i j, rl f i j → rl (itN fctx n f) i j := by
  intro n
  induction n with
  | zero => intro i j h; exact h
  | succ n ih => intro i j h; rw [itN_s]; exact fctx_n 8 i j (ih i j h)
theorem frnd_in {f : Nat → Nat} {c r j : Nat} (h1 : rl f c r) (h2 : rl f r j) (hr : r < 8) : ∀ n, c < n → rl (itN fctx n f) c j := by
  intro n
  induction n with
  | zero => intro h; omega
  | succ n ih =>
    intro h
    rw [itN_s]
    by_cases hc : c = n
    · subst hc; exact fctx_in (frnd_n c c r h1) (frnd_n c r j h2) 8 hr
    · exact fctx_n 8 c j (ih (by omega))
/-- within a set that is closed nothing leads out of it -/
theorem far_le {X : Nat → Nat → Prop} (ht : ∀ m i j, m < 8 → i < 8 → X i m → X m j → X i j) {f : Nat → Nat} (hf : ∀ i j, i < 8 → rl f i j → X i j) : ∀ i j, i < 8 → rl (frnd f) i j → X i j := by
  have step : ∀ c o, c < 8 → o < 8 → ∀ f : Nat → Nat, (∀ i j, i < 8 → rl f i j → X i j) → ∀ i j, i < 8 → rl (fstep c o f) i j → X i j := by
    intro c o hc ho f hf i j hi h
    rw [fstep_rl] at h
    rcases h with h | ⟨rfl, h1, h2⟩
    · exact hf i j hi h
    · exact ht o i j ho hi (hf i o hi h1) (hf o j ho h2)
  have ctx : ∀ c, c < 8 → ∀ n, n ≤ 8 → ∀ f : Nat → Nat, (∀ i j, i < 8 → rl f i j → X i j) → ∀ i j, i < 8 → rl (itN (fun o f => fstep c o f) n f) i j → X i j := by
    intro c hc n
    induction n with
    | zero => intro _ f hf; exact hf
    | succ n ih => intro hn f hf; rw [itN_s]; exact step c n hc (by omega) _ (ih (by omega) f hf)
  have rnd : ∀ n, n ≤ 8 → ∀ i j, i < 8 → rl (itN fctx n f) i j → X i j := by
    intro n
    induction n with
    | zero => intro _; exact hf
    | succ n ih => intro hn; rw [itN_s]; exact ctx n (by omega) 8 (Nat.le_refl _) _ (ih (by omega))
  exact rnd 8 (Nat.le_refl _)
theorem far_ge {w : Nat → Nat} : ∀ n i j, i < 8 → n ≤ 8 → rl (itN wrnd n w) i j → rl (itN (fun _ f => frnd f) n w) i j := by
  intro n
  induction n with
  | zero => intro i j _ _ h; exact h
  | succ n ih =>
    intro i j hi hn h
    rw [itN_s, wrnd_rl hi] at h
    rw [itN_s]
    rcases h with h | ⟨h1, h2⟩
    · exact frnd_n 8 i j (ih i j hi (by omega) h)
    · exact frnd_in (ih i n hi (by omega) h1) (ih n j (by omega) (by omega) h2) (by omega) 8 hi
theorem war_far {w : Nat → Nat} {i : Nat} (hi : i < 8) : war w i = ffar w i := by
  apply Nat.eq_of_testBit_eq
  intro j
  have h1 : rl (war w) i j → rl (ffar w) i j := far_ge 8 i j hi (Nat.le_refl _)
  have h2 : rl (ffar w) i j → rl (war w) i j := by
    have : ∀ n i j, i < 8 → rl (itN (fun _ f => frnd f) n w) i j → rl (war w) i j := by
      intro n
      induction n with
      | zero => intro i j hi h; exact war_mono hi h 8
      | succ n ih => intro i j hi h; rw [itN_s] at h; exact far_le (X := rl (war w)) (fun m i j hm hi a b => war_tr 8 (Nat.le_refl _) m i j hm hi a b) ih i j hi h
    exact this 8 i j hi
  unfold rl at h1 h2
  cases ha : (war w i).testBit j <;> cases hb : (ffar w i).testBit j
  · rfl
  · have := h2 hb; rw [ha] at this; cases this
  · have := h1 ha; rw [hb] at this; cases this
  · rfl

