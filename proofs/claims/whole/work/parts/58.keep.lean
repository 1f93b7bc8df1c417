/-! ===== every call keeps what there is well ===== -/
theorem wfA_append {σ : Nat → Nat} {N c k n : Nat} (h : wfA σ N) (hc : c < 8) (hm : σ (62 * c) < 16) (hp : pok k n) : wfA (pappend σ c k n) N := by
  obtain ⟨h1, h2, h3, h4⟩ := h
  have hkn : k ≤ 6 ∧ n ≤ 99 := by unfold pok at hp; omega
  have e : ∀ i, ¬ i = 62 * c → (i < 62 * c + (14 + 3 * σ (62 * c)) ∨ 62 * c + (14 + 3 * σ (62 * c) + 2) < i) → pappend σ c k n i = σ i := fun i h1 h2 => by
    unfold pappend; rw [su_ne (by omega), su_ne (by omega), su_ne (by omega), su_ne (by omega)]
  have e0 : pappend σ c k n (62 * c) = σ (62 * c) + 1 := su_eq
  have ek : pappend σ c k n (62 * c + (14 + 3 * σ (62 * c))) = k := by
    unfold pappend; rw [su_ne (by omega), su_ne (by omega), su_ne (by omega), su_eq]
  have en : pappend σ c k n (62 * c + (14 + 3 * σ (62 * c) + 1)) = n := by
    unfold pappend; rw [su_ne (by omega), su_ne (by omega), su_eq]
  have em0 : pappend σ c k n (62 * c + (14 + 3 * σ (62 * c) + 2)) = 0 := by
    unfold pappend; rw [su_ne (by omega), su_eq]
  refine ⟨fun i => ?_, fun i hi => by rw [e i (by omega) (by omega)]; exact h2 i hi, fun d hd => ?_, fun j hj => by rw [e _ (by omega) (by omega)]; exact h4 j hj⟩
  · unfold pappend su
    split
    · have := h1 (62 * c); omega
    · split
      · omega
      · split
        · omega
        · split
          · omega
          · exact h1 i
  · obtain ⟨w1, w2, w3, w4, w5, w6, w7, w8, w9⟩ := h3 d hd
    by_cases hdc : d = c
    · subst hdc
      refine ⟨by rw [e0]; omega, by rw [e0, e _ (by omega) (by omega)]; omega, by rw [e _ (by omega) (by omega)]; exact w3, by rw [e _ (by omega) (by omega)]; exact w4, by rw [e _ (by omega) (by omega)]; exact w5, fun j hj => by rw [e _ (by omega) (by omega)]; exact w6 j hj, by rw [e _ (by omega) (by omega)]; exact w7, fun j hj => by rw [e _ (by omega) (by omega)]; exact w8 j hj, fun p hp => ?_⟩
      rw [e0] at hp
      by_cases hpm : p = σ (62 * d)
      · subst hpm; rw [ek, en, em0]; exact ⟨by assumption, by decide⟩
      · rw [e _ (by omega) (by omega), e _ (by omega) (by omega), e _ (by omega) (by omega)]; exact w9 p (by omega)
    · have ed : ∀ y, y < 62 → pappend σ c k n (62 * d + y) = σ (62 * d + y) := fun y hy => e _ (by omega) (by rcases Nat.lt_trichotomy d c with q | q | q <;> omega)
      have ed0 : pappend σ c k n (62 * d) = σ (62 * d) := ed 0 (by decide)
      refine ⟨by rw [ed0]; exact w1, by rw [ed0, ed 1 (by decide)]; exact w2, by rw [ed 2 (by decide)]; exact w3, by rw [ed 3 (by decide)]; exact w4, by rw [ed 4 (by decide)]; exact w5, fun j hj => by rw [ed (5 + j) (by omega)]; exact w6 j hj, by rw [ed 9 (by decide)]; exact w7, fun j hj => by rw [ed (10 + j) (by omega)]; exact w8 j hj, fun p hp => ?_⟩
      rw [ed0] at hp
      rw [ed (14 + 3 * p) (by omega), ed (14 + 3 * p + 1) (by omega), ed (14 + 3 * p + 2) (by omega)]
      exact w9 p hp
theorem wfA_clear {σ : Nat → Nat} {N c : Nat} (h : wfA σ N) (hc : c < 8) : wfA (pclear σ c) N := by
  obtain ⟨h1, h2, h3, h4⟩ := h
  have ez : ∀ i, (i = 62 * c ∨ i = 62 * c + 1 ∨ i = 62 * c + 2 ∨ i = 62 * c + 9 ∨ (62 * c + 14 ≤ i ∧ i < 62 * c + 62)) → pclear σ c i = 0 := fun i hi => if_pos hi
  have eo : ∀ i, ¬ (i = 62 * c ∨ i = 62 * c + 1 ∨ i = 62 * c + 2 ∨ i = 62 * c + 9 ∨ (62 * c + 14 ≤ i ∧ i < 62 * c + 62)) → pclear σ c i = σ i := fun i hi => if_neg hi
  refine ⟨fun i => ?_, fun i hi => by rw [eo i (by omega)]; exact h2 i hi, fun d hd => ?_, fun j hj => by rw [eo _ (by omega)]; exact h4 j hj⟩
  · unfold pclear; split
    · exact Nat.zero_le _
    · exact h1 i
  · obtain ⟨w1, w2, w3, w4, w5, w6, w7, w8, w9⟩ := h3 d hd
    by_cases hdc : d = c
    · subst hdc
      refine ⟨by rw [ez _ (by omega)]; decide, by rw [ez (62 * d + 1) (by omega)]; exact Nat.zero_le _, by rw [ez _ (by omega)]; decide, by rw [eo _ (by omega)]; exact w4, by rw [eo _ (by omega)]; exact w5, fun j hj => by rw [eo _ (by omega)]; exact w6 j hj, by rw [ez _ (by omega)]; decide, fun j hj => by rw [eo _ (by omega)]; exact w8 j hj, fun p hp => ?_⟩
      rw [ez _ (by omega)] at hp; omega
    · refine ⟨by rw [eo _ (by omega)]; exact w1, by rw [eo _ (by omega), eo (62 * d) (by omega)]; exact w2, by rw [eo _ (by omega)]; exact w3, by rw [eo _ (by omega)]; exact w4, by rw [eo _ (by omega)]; exact w5, fun j hj => by rw [eo _ (by omega)]; exact w6 j hj, by rw [eo _ (by omega)]; exact w7, fun j hj => by rw [eo _ (by omega)]; exact w8 j hj, fun p hp => ?_⟩
      rw [eo _ (by omega)] at hp
      have ed : ∀ y, y < 62 → pclear σ c (62 * d + y) = σ (62 * d + y) := fun y hy => eo _ (by rcases Nat.lt_trichotomy d c with q | q | q <;> omega)
      rw [ed (14 + 3 * p) (by omega), ed (14 + 3 * p + 1) (by omega), ed (14 + 3 * p + 2) (by omega)]
      exact w9 p hp
theorem wfA_load {σ : Nat → Nat} {N c : Nat} {f : Nat → Nat × Nat} (h : wfA σ N) (hc : c < 8) : ∀ m, m ≤ 16 → (∀ i, i < m → pok (f i).1 (f i).2) → wfA (ploadN σ c f m) N := by
  intro m
  induction m with
  | zero => intro _ _; exact wfA_clear h hc
  | succ m ih =>
    intro hm hp
    exact wfA_append (ih (by omega) (fun i hi => hp i (by omega))) hc (Nat.lt_of_le_of_lt (Nat.le_of_eq (ploadN_0 m)) (by omega)) (hp m (by omega))
theorem pnum_pok {g : pG} {k a : Nat} (hk : k ≤ 6) (h : (pnum g k a).1 = true) : pok k (pnum g k a).2.1 := by
  have p0 : ∀ hi, (pn0 g 48 (48 + hi) a).1 = true → (pn0 g 48 (48 + hi) a).2.1 ≤ hi := by
    intro hi h
    unfold pn0 at h ⊢
    split at h
    · rename_i h2; rw [if_pos h2]; show pch g a - 48 ≤ hi; omega
    · cases h
  have p2 : (pn2 g a).1 = true → (pn2 g a).2.1 ≤ 99 := by
    intro h
    unfold pn2 at h ⊢
    by_cases h1 : 48 ≤ pch g a ∧ pch g a ≤ 57
    · rw [if_pos h1]
      by_cases h2 : 0 < pch g a - 48 ∧ (48 ≤ pch g (a + 1) ∧ pch g (a + 1) ≤ 57)
      · rw [if_pos h2]; show 10 * (pch g a - 48) + (pch g (a + 1) - 48) ≤ 99; omega
      · rw [if_neg h2]; show pch g a - 48 ≤ 99; omega
    · rw [if_neg h1] at h; cases h
  have hcase : k = 0 ∨ k = 1 ∨ k = 2 ∨ k = 3 ∨ k = 4 ∨ k = 5 ∨ k = 6 := by omega
  unfold pok
  rcases hcase with rfl | rfl | rfl | rfl | rfl | rfl | rfl
  · have := p2 h; exact Or.inl ⟨rfl, this⟩
  · have := p0 7 h; exact Or.inr (Or.inl ⟨rfl, this⟩)
  · exact Or.inr (Or.inr (Or.inl ⟨rfl, rfl⟩))
  · have := p0 3 h; exact Or.inr (Or.inr (Or.inr (Or.inl ⟨rfl, this⟩)))
  · have := p0 3 h; exact Or.inr (Or.inr (Or.inr (Or.inr (Or.inl ⟨rfl, this⟩))))
  · have := p2 h; exact Or.inr (Or.inr (Or.inr (Or.inr (Or.inr (Or.inl ⟨rfl, this⟩)))))
  · refine Or.inr (Or.inr (Or.inr (Or.inr (Or.inr (Or.inr ⟨rfl, ?_⟩)))))
    have h : (pnb g a).1 = true := h
    show 1 ≤ (pnb g a).2.1 ∧ (pnb g a).2.1 ≤ 15
    unfold pnb at h ⊢
    by_cases h1 : 49 ≤ pch g a ∧ pch g a ≤ 57
    · rw [if_pos h1] at h ⊢
      by_cases h2 : 48 ≤ pch g (a + 1) ∧ pch g (a + 1) ≤ 57
      · rw [if_pos h2] at h ⊢
        by_cases h3 : pch g a = 49 ∧ pch g (a + 1) ≤ 53
        · rw [if_pos h3]; show 1 ≤ 10 + (pch g (a + 1) - 48) ∧ 10 + (pch g (a + 1) - 48) ≤ 15; omega
        · rw [if_neg h3] at h; cases h
      · rw [if_neg h2]; show 1 ≤ pch g a - 48 ∧ pch g a - 48 ≤ 15; omega
    · rw [if_neg h1] at h; cases h
theorem prd_pok {g : pG} : ∀ n a m f, n + m = 16 → (∀ i, i < m → pok (f i).1 (f i).2) → (prd g n a m f).1 = none → (prd g n a m f).2.1 ≤ 16 ∧ ∀ i, i < (prd g n a m f).2.1 → pok ((prd g n a m f).2.2 i).1 ((prd g n a m f).2.2 i).2 := by
  intro n
  induction n with
  | zero => intro a m f hn hf h; cases h
  | succ n ih =>
    intro a m f hn hf h
    rw [prd_s] at h ⊢
    cases hk : pkd (pch g a) with
    | none => rw [hk] at h; cases h
    | some k =>
      rw [hk] at h
      dsimp only at h ⊢
      have hk6 := (pkd_le hk).1
      cases hok : (pnum g k (a + 1)).1 with
      | false => rw [hok, if_neg (by decide)] at h; cases h
      | true =>
        rw [hok, if_pos rfl] at h
        rw [if_pos rfl]
        have hf' : ∀ i, i < m + 1 → pok ((fun i => if i = m then (k, (pnum g k (a + 1)).2.1) else f i) i).1 ((fun i => if i = m then (k, (pnum g k (a + 1)).2.1) else f i) i).2 := fun i hi => by
          dsimp only
          by_cases him : i = m
          · rw [if_pos him]; exact pnum_pok hk6 hok
          · rw [if_neg him]; exact hf i (by omega)
        unfold ptail at h ⊢
        split
        · rename_i hlt
          rw [if_pos hlt] at h
          split
          · rename_i h44
            rw [if_pos h44] at h
            exact ih _ _ _ (by omega) hf' h
          · rename_i h44; rw [if_neg h44] at h; cases h
        · exact ⟨by show m + 1 ≤ 16; omega, hf'⟩
section KEEP
variable {g : pG}
theorem gG_put2 (h : gG g) : gG (gput g 0 (gpd g)) := by
  obtain ⟨h1, h2, h3, h4, h5, h6⟩ := h
  exact ⟨h1, h2, h3, h4, Nat.zero_le _, fun j hj => absurd hj (Nat.not_lt_zero j)⟩
theorem gs_recs {σ : Nat → Nat} (h : gG g) (hs : gs σ 100000) : gG (gset (grec g) σ) := gG_set (gG_rec h) hs
theorem keep_add {a b c : Int32} (h : gG g) : gG (padd g a b c).2 := by
  unfold padd
  split
  · rename_i h1
    split
    · rename_i h2
      split
      · exact h
      · rename_i h3
        rcases xrng a 0 7 (by decide) (by decide) with ⟨d, _, hd, rfl⟩ | ⟨hn, _⟩
        · rw [ix_n (by omega)] at h3 ⊢
          have hm := (h.1.1.2.2.1 d (by omega)).1
          have hp : pok (ix b) (ix c) := by
            unfold pargB at h2
            simp only [Bool.and_eq_true] at h2
            exact pokb_iff.mp h2.2.2
          have e496 : pappend (gσ g) d (ix b) (ix c) 496 = gσ g 496 := by
            unfold pappend; rw [su_ne (by omega), su_ne (by omega), su_ne (by omega), su_ne (by omega)]
          exact gs_recs h ⟨by rw [e496]; exact wfA_append h.1.1 (by omega) (by omega) hp, by rw [e496]; exact h.1.2⟩
        · exact absurd h1 hn
    · exact h
  · exact h
theorem keep_prefer {a b : Int32} (h : gG g) : gG (pprefer g a b).2 := by
  unfold pprefer
  split
  · rename_i h1
    split
    · rename_i h2
      rcases xrng a 0 7 (by decide) (by decide) with ⟨d, _, hd, rfl⟩ | ⟨hn, _⟩
      · rcases xrng b 0 9 (by decide) (by decide) with ⟨k, _, hk, rfl⟩ | ⟨hn, _⟩
        · rw [ix_n (by omega), ix_n (by omega)]
          exact gs_recs h ⟨by rw [su_ne (by omega)]; exact wfA_3 h.1.1 (by omega) hk, by rw [su_ne (by omega)]; exact h.1.2⟩
        · exact absurd h2 hn
      · exact absurd h1 hn
    · exact h
  · exact h
theorem keep_post {a b : Int32} (h : gG g) : gG (ppost g a b).2 := by
  unfold ppost
  split
  · rename_i h1
    split
    · rename_i h2
      split
      · exact h
      · rename_i h3
        rcases xrng a 0 7 (by decide) (by decide) with ⟨d, _, hd, rfl⟩ | ⟨hn, _⟩
        · rcases xrng b 0 999 (by decide) (by decide) with ⟨k, _, hk, rfl⟩ | ⟨hn, _⟩
          · rw [ix_n (by omega)] at h3 ⊢
            rw [ix_n (by omega)]
            have h4 := (h.1.1.2.2.1 d (by omega)).2.2.2.2.1
            have e496 : precv (gσ g) d k 496 = gσ g 496 := by unfold precv; rw [su_ne (by omega), su_ne (by omega)]
            exact gs_recs h ⟨by rw [e496]; exact wfA_recv h.1.1 (by omega) (by omega) (by omega), by rw [e496]; exact h.1.2⟩
          · exact absurd h2 hn
        · exact absurd h1 hn
    · exact h
  · exact h
theorem keep_release {a : Int32} (h : gG g) : gG (prelease g a).2 := by
  unfold prelease
  split
  · rename_i h1
    split
    · exact h
    · rcases xrng a 0 3 (by decide) (by decide) with ⟨d, _, hd, rfl⟩ | ⟨hn, _⟩
      · rw [ix_n (by omega)]
        exact gs_recs h ⟨by rw [su_ne (by omega)]; exact wfA_h h.1.1 (by omega) (by decide), by rw [su_ne (by omega)]; exact h.1.2⟩
      · exact absurd h1 hn
  · exact h
theorem gs_le {σ : Nat → Nat} {n m : Nat} (h : gs σ n) (hm : σ 496 ≤ m) : gs σ m := ⟨h.1, hm⟩
theorem keep_step {a : Int32} (h : gG g) : gG (pstep g a).2 := by
  unfold pstep
  split
  · rename_i h1
    split
    · exact h
    · rename_i h2
      rcases xrng a 1 200 (by decide) (by decide) with ⟨d, _, hd, rfl⟩ | ⟨hn, _⟩
      · rw [ix_n (by omega)] at h2 ⊢
        obtain ⟨q1, q2⟩ := pslots_gs h.1 d (by omega)
        exact gs_recs h (gs_le q1 (by rw [q2]; omega))
      · exact absurd h1 hn
  · exact h
theorem keep_run (h : gG g) : gG (prun g).2 := by
  unfold prun
  split
  · exact h
  · rename_i h2
    have hk := prunN_le (gσ g)
    obtain ⟨q1, q2⟩ := pslots_gs h.1 (prunN (gσ g)) (by omega)
    exact gs_recs h (gs_le q1 (by rw [q2]; omega))
theorem keep_read (h : gG g) : gG (pread g).2 := by
  unfold pread
  cases hp : (pparse g).1 with
  | some q => exact h
  | none =>
    dsimp only
    have hc8 : pch g 0 - 48 < 8 := by
      unfold pparse at hp
      split at hp
      · omega
      · cases hp
    have hpk : (pparse g).2.1 ≤ 16 ∧ ∀ i, i < (pparse g).2.1 → pok ((pparse g).2.2 i).1 ((pparse g).2.2 i).2 := by
      unfold pparse at hp ⊢
      split at hp
      · rename_i h1
        rw [if_pos h1]
        split at hp
        · rename_i h2
          rw [if_pos h2]
          split at hp
          · rename_i h3
            rw [if_pos h3]
            exact prd_pok 16 2 0 _ rfl (fun i hi => absurd hi (Nat.not_lt_zero i)) hp
          · rename_i h3
            rw [if_neg h3]
            exact ⟨Nat.zero_le _, fun i hi => absurd hi (Nat.not_lt_zero i)⟩
        · cases hp
      · cases hp
    have hl := wfA_load (c := pch g 0 - 48) h.1.1 hc8 _ hpk.1 hpk.2
    have e496 : ploadN (gσ g) (pch g 0 - 48) (pparse g).2.2 (pparse g).2.1 496 = gσ g 496 := by
      rw [ploadN_o _ hpk.1 (by omega) (by omega)]; exact if_neg (by omega)
    exact gG_put2 (g := gset (grec g) (ploadN (gσ g) (pch g 0 - 48) (pparse g).2.2 (pparse g).2.1)) (gs_recs h ⟨by rw [e496]; exact hl, by rw [e496]; exact h.1.2⟩)
theorem keep_put {n : Nat} (h : gG g) : gG (pput g n).2 := by
  unfold pput
  split
  · exact h
  · rename_i h0
    split
    · exact h
    · rename_i h1
      obtain ⟨g1, g2, g3, g4, g5, g6⟩ := h
      obtain ⟨i1, i2⟩ := pchars_in 8 n 0 h0
      refine ⟨g1, g2, g3, g4, by show gln g + pcn n ≤ 72; omega, fun j hj => ?_⟩
      have hj : j < gln g + pcn n := hj
      show 33 ≤ (if j < gln g then gpd g j else n / 2 ^ (8 * (pcn n - 1 - (j - gln g))) % 256) ∧ (if j < gln g then gpd g j else n / 2 ^ (8 * (pcn n - 1 - (j - gln g))) % 256) ≤ 126
      by_cases hl : j < gln g
      · rw [if_pos hl]; exact g6 j hl
      · rw [if_neg hl]
        exact i2 (pcn n - 1 - (j - gln g)) (by show _ < pcn n - 0; omega)
theorem keep_undo (h : gG g) : gG (pundo g).2 := by
  unfold pundo
  split
  · exact h
  · exact gG_undo h (by omega)
theorem keep_save {a : Int32} (h : gG g) : gG (psave g a).2 := by
  unfold psave
  split
  · exact gG_save h
  · exact h
theorem keep_restore {a : Int32} (h : gG g) : gG (prestore g a).2 := by
  unfold prestore
  split
  · rename_i h1
    split
    · rename_i h2
      rcases xrng a 0 1 (by decide) (by decide) with ⟨d, _, hd, rfl⟩ | ⟨hn, _⟩
      · rw [ix_n (by omega)] at h2 ⊢
        exact gs_recs h (h.2.2.2.1 d (by omega) h2)
      · exact absurd h1 hn
    · exact h
  · exact h
theorem keep_wipe (h : gG g) : gG (pwipe g).2 := gG_put2 h
end KEEP
