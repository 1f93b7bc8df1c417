/-! ===== the accounts of slots: what every run of calls keeps of them ===== -/
def acc (σ : Nat → Nat) : Prop := (∀ k, k < 8 → σ (62 * k + 10) + σ (62 * k + 12) + σ (62 * k + 13) = (σ 496 + 7 - k) / 8) ∧ psum σ 12 8 = psum σ 11 8
section ACC
variable {σ τ : Nat → Nat} {c N : Nat}
theorem acc_o (h : acc σ) (h0 : τ 496 = σ 496) (ho : ∀ c j, c < 8 → j < 4 → τ (62 * c + (10 + j)) = σ (62 * c + (10 + j))) : acc τ := by
  have e0 : ∀ c, c < 8 → τ (62 * c + 10) = σ (62 * c + 10) := fun c hc => ho c 0 hc (by decide)
  have e1 : ∀ c, c < 8 → τ (62 * c + 11) = σ (62 * c + 11) := fun c hc => ho c 1 hc (by decide)
  have e2 : ∀ c, c < 8 → τ (62 * c + 12) = σ (62 * c + 12) := fun c hc => ho c 2 hc (by decide)
  have e3 : ∀ c, c < 8 → τ (62 * c + 13) = σ (62 * c + 13) := fun c hc => ho c 3 hc (by decide)
  refine ⟨fun k hk => by rw [e0 k hk, e2 k hk, e3 k hk, h0]; exact h.1 k hk, ?_⟩
  rw [psum_c (σ := σ) e2, psum_c (σ := σ) e1]; exact h.2
theorem acc_0 : acc (fun _ => 0) := by
  refine ⟨fun k hk => ?_, rfl⟩
  show 0 + 0 + 0 = (0 + 7 - k) / 8
  omega
theorem pruns_a (h : wfA σ N) (hc : c < 8) (hpl : σ (62 * c + 1) < σ (62 * c)) (hr : pcmd σ c (σ (62 * c + 1)) = 1 → ¬ σ (62 * parg σ c (σ (62 * c + 1)) + 4) = 4) {d j : Nat} (hd : d < 8) (hj : j < 4) : pruns σ c (62 * d + (10 + j)) = σ (62 * d + (10 + j)) := by
  obtain ⟨w1, w2, w3, w4, w5, w6, w7, w8, w9⟩ := h.2.2.1 c hc
  have hok : pok (pcmd σ c (σ (62 * c + 1))) (parg σ c (σ (62 * c + 1))) := (w9 _ hpl).1
  have hp16 : σ (62 * c + 1) < 16 := by omega
  unfold pruns
  generalize hk : pcmd σ c (σ (62 * c + 1)) = k at hok hr ⊢
  generalize hn : parg σ c (σ (62 * c + 1)) = n at hok hr ⊢
  unfold pok at hok
  have n1 : ¬ 62 * d + (10 + j) = 62 * c + 1 := by rcases Nat.lt_trichotomy d c with q | q | q <;> omega
  have nm : ¬ 62 * d + (10 + j) = 62 * c + (14 + 3 * σ (62 * c + 1) + 2) := by rcases Nat.lt_trichotomy d c with q | q | q <;> omega
  split
  · unfold pback
    split
    · rw [su_ne n1, su_ne nm]
    · rw [su_ne n1, su_ne nm]
  · split
    · rw [su_ne (by rcases Nat.lt_trichotomy d c with q | q | q <;> omega), su_ne n1]
    · split
      · rename_i h1
        have hr := hr h1
        have hn8 : n < 8 := by omega
        have h4 := (h.2.2.1 n hn8).2.2.2.2.1
        have e4 : su σ (62 * c + 1) (σ (62 * c + 1) + 1) (62 * n + 4) = σ (62 * n + 4) := su_ne (by omega)
        unfold precv
        rw [e4, su_ne (by rcases Nat.lt_trichotomy d n with q | q | q <;> omega), su_ne (by rcases Nat.lt_trichotomy d n with q | q | q <;> omega), su_ne n1]
      · split
        · unfold ptake
          rw [su_ne (by rcases Nat.lt_trichotomy d c with q | q | q <;> omega), su_ne (by rcases Nat.lt_trichotomy d c with q | q | q <;> omega), su_ne (by rcases Nat.lt_trichotomy d c with q | q | q <;> omega), su_ne (by rcases Nat.lt_trichotomy d c with q | q | q <;> omega), su_ne (by rcases Nat.lt_trichotomy d c with q | q | q <;> omega), su_ne (by rcases Nat.lt_trichotomy d c with q | q | q <;> omega), su_ne n1]
        · split
          · rw [su_ne (by omega), su_ne n1]
          · split
            · rw [su_ne (by omega), su_ne n1]
            · rw [su_ne (by rcases Nat.lt_trichotomy d c with q | q | q <;> omega), su_ne n1]
/-- a slot's account, laid ahead of its number -/
theorem acc_acct {own : Nat} {r : Option Nat} (h : acc σ) (ho : own = σ 496 % 8) (hr : ∀ c, r = some c → c < 8) (h0 : τ 496 = σ 496 + 1) (ht : ∀ c j, c < 8 → j < 4 → τ (62 * c + (10 + j)) = pacct σ own r (62 * c + (10 + j))) : acc τ := by
  have ho8 : own < 8 := by omega
  have e0 : ∀ c, c < 8 → τ (62 * c + 10) = pacct σ own r (62 * c + 10) := fun c hc => ht c 0 hc (by decide)
  have e1 : ∀ c, c < 8 → τ (62 * c + 11) = pacct σ own r (62 * c + 11) := fun c hc => ht c 1 hc (by decide)
  have e2 : ∀ c, c < 8 → τ (62 * c + 12) = pacct σ own r (62 * c + 12) := fun c hc => ht c 2 hc (by decide)
  have e3 : ∀ c, c < 8 → τ (62 * c + 13) = pacct σ own r (62 * c + 13) := fun c hc => ht c 3 hc (by decide)
  obtain ⟨h1, h2⟩ := h
  -- one more for the owner, none for the others
  have own1 : ∀ k, k < 8 → k = own → (σ 496 + 1 + 7 - k) / 8 = (σ 496 + 7 - k) / 8 + 1 := fun k hk hko => by omega
  have oth1 : ∀ k, k < 8 → ¬ k = own → (σ 496 + 1 + 7 - k) / 8 = (σ 496 + 7 - k) / 8 := fun k hk hko => by omega
  refine ⟨fun k hk => ?_, ?_⟩
  · rw [e0 k hk, e2 k hk, e3 k hk, h0]
    have hk1 := h1 k hk
    cases r with
    | none =>
      show su σ (62 * own + 13) (σ (62 * own + 13) + 1) _ + su σ (62 * own + 13) (σ (62 * own + 13) + 1) _ + su σ (62 * own + 13) (σ (62 * own + 13) + 1) _ = _
      by_cases hko : k = own
      · rw [own1 k hk hko]
        subst hko
        rw [su_ne (by omega), su_ne (by omega), su_eq]; omega
      · rw [oth1 k hk hko, su_ne (by omega), su_ne (by omega), su_ne (by omega)]; exact hk1
    | some c =>
      have hc := hr c rfl
      by_cases hco : c = own
      · subst hco
        rw [pacct_own]
        by_cases hko : k = c
        · rw [own1 k hk hko]
          subst hko
          rw [su_eq, su_ne (by omega), su_ne (by omega)]; omega
        · rw [oth1 k hk hko, su_ne (by omega), su_ne (by omega), su_ne (by omega)]; exact hk1
      · rw [pacct_oth hco]
        by_cases hko : k = own
        · rw [own1 k hk hko]
          subst hko
          rw [su_ne (by omega), su_ne (by omega), su_ne (by omega), su_eq, su_ne (by omega), su_ne (by omega)]; omega
        · rw [oth1 k hk hko, su_ne (by omega), su_ne (by omega), su_ne (by omega), su_ne (by omega), su_ne (by omega), su_ne (by omega)]; exact hk1
  · rw [psum_c e2, psum_c e1]
    cases r with
    | none =>
      show psum (su σ (62 * own + 13) (σ (62 * own + 13) + 1)) 12 8 = psum (su σ (62 * own + 13) (σ (62 * own + 13) + 1)) 11 8
      rw [psum_su (by decide) (by decide) (by decide), psum_su (by decide) (by decide) (by decide)]; exact h2
    | some c =>
      have hc := hr c rfl
      by_cases hco : c = own
      · subst hco
        rw [pacct_own, psum_su (by decide) (by decide) (by decide), psum_su (by decide) (by decide) (by decide)]; exact h2
      · rw [pacct_oth hco]
        have q : σ (62 * c + 11) = su σ (62 * own + 12) (σ (62 * own + 12) + 1) (62 * c + 11) := (su_ne (by omega)).symm
        rw [psum_su (w := 12) (j := 11) (by decide) (by decide) (by decide), psum_up ho8 (by decide), q, psum_up hc (by decide), psum_su (by decide) (by decide) (by decide), h2]
theorem acc_slot {n : Nat} (hg : gs σ n) (hn : n < 200000) (h : acc σ) : acc (pslot σ) := by
  obtain ⟨h1, h2⟩ := hg
  have hw := wfA_wakes h1
  have ho : σ 496 % 8 < 8 := Nat.mod_lt _ (by decide)
  have hwk : acc (pwakes σ) := acc_o h (pwakes_u (by decide)) (fun c j hc hj => pwakes_c hc (by omega) (by omega))
  have h496 : pwakes σ 496 = σ 496 := pwakes_u (by decide)
  have e496 : pslot σ 496 = pwakes σ 496 + 1 := by rw [h496]; exact su_eq
  have hr8 : ∀ c, pslotR σ = some c → c < 8 := fun c hr => (prunner_1 ho hr).1
  refine acc_acct (own := σ 496 % 8) (r := pslotR σ) hwk (by rw [h496]) hr8 e496 (fun d j hd hj => ?_)
  unfold pslot
  rw [su_ne (by omega)]
  cases hr : pslotR σ with
  | none => rfl
  | some c =>
    obtain ⟨hc, hp⟩ := prunner_1 ho hr
    obtain ⟨p1, p2, p3, p4, p5⟩ := pst_1 hp
    obtain ⟨w1, w2, w3, w4, w5, w6, w7, w8, w9⟩ := hw.2.2.1 c hc
    have hrs : ∀ d, some c = some d → d < 8 := fun d hd => by cases hd; exact hc
    have ha := wfA_acct hw ho hrs (by omega)
    have eo : ∀ i, (∀ c j, c < 8 → j < 4 → ¬ i = 62 * c + (10 + j)) → pacct (pwakes σ) (σ 496 % 8) (some c) i = pwakes σ i := fun i hi => pacct_o ho hrs hi
    generalize pwakes σ = τ at p1 p2 p3 p4 p5 w1 w2 w9 eo ha
    have e1 : pacct τ (σ 496 % 8) (some c) (62 * c + 1) = τ (62 * c + 1) := eo _ (fun _ _ _ _ => by omega)
    have e0 : pacct τ (σ 496 % 8) (some c) (62 * c) = τ (62 * c) := eo _ (fun _ _ _ _ => by omega)
    have hp16 : τ (62 * c + 1) < 16 := by omega
    have ec : pcmd (pacct τ (σ 496 % 8) (some c)) c (τ (62 * c + 1)) = pcmd τ c (τ (62 * c + 1)) := eo (62 * c + (14 + 3 * τ (62 * c + 1))) (fun d _ _ _ => by rcases Nat.lt_trichotomy d c with h | h | h <;> omega)
    have ea : parg (pacct τ (σ 496 % 8) (some c)) c (τ (62 * c + 1)) = parg τ c (τ (62 * c + 1)) := eo (62 * c + (14 + 3 * τ (62 * c + 1) + 1)) (fun d _ _ _ => by rcases Nat.lt_trichotomy d c with h | h | h <;> omega)
    refine pruns_a ha hc (by rw [e1, e0]; exact p1) ?_ hd hj
    rw [e1, ec, ea, eo _ (fun _ _ _ _ => by omega)]
    exact p3
theorem acc_slots {n : Nat} (hg : gs σ n) (h : acc σ) : ∀ k, n + k ≤ 200000 → acc (pslots k σ) := by
  intro k
  induction k with
  | zero => intro _; exact h
  | succ k ih =>
    intro hk
    exact acc_slot (pslots_gs hg k (by omega)).1 (by omega) (ih (by omega))
end ACC
