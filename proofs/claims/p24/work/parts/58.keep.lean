/-! ===== every call keeps what there is well ===== -/
theorem wfA_append {σ : Nat → Nat} {N c k n : Nat} (h : wfA σ N) (hc : c < 8) (hm : σ (62 * c) < 16) (hp : pok k n) : wfA (pappend σ c k n) N := by
  obtain ⟨h1, h2, h3, h4⟩ := h
  have hkn : k ≤ 6 ∧ n ≤ 99 := by unfold pok at hp; omega
  have e : ∀ i, ¬ i = 62 * c → (i < 62 * c + (14 + 3 * σ (62 * c)) ∨ 62 * c + (14 + 3 * σ (62 * c) + 2) < i) → pappend σ c k n i = σ i := fun i h1 h2 => by
    unfold pappend; rw [su_ne (by omega), su_ne (by omega), su_ne (by omega), su_ne (by omega)]
  have e0 : pappend σ c k n (62 * c) = σ (62 * c) + 1 := su_eq
  have ek : pappend σ c k n (62 * c + (14 + 3 * σ (62 * c))) = k := by
    unfold pappend; rw [su_ne (by omega), su_ne (by omega), su_ne (by omega), su_eq]
  have en : pappend σ c k n (62 * c + (14 + 3 * σ (62 * c) + 1)) = n := by
    unfold pappend; rw [su_ne (by omega), su_ne (by omega), su_eq]
  have em0 : pappend σ c k n (62 * c + (14 + 3 * σ (62 * c) + 2)) = 0 := by
    unfold pappend; rw [su_ne (by omega), su_eq]
  refine ⟨fun i => ?_, fun i hi => by rw [e i (by omega) (by omega)]; exact h2 i hi, fun d hd => ?_, fun j hj => by rw [e _ (by omega) (by omega)]; exact h4 j hj⟩
  · unfold pappend su
    split
    · have := h1 (62 * c); omega
    · split
      · omega
      · split
        · omega
        · split
          · omega
          · exact h1 i
  · obtain ⟨w1, w2, w3, w4, w5, w6, w7, w8, w9⟩ := h3 d hd
    by_cases hdc : d = c
    · subst hdc
      refine ⟨by rw [e0]; omega, by rw [e0, e _ (by omega) (by omega)]; omega, by rw [e _ (by omega) (by omega)]; exact w3, by rw [e _ (by omega) (by omega)]; exact w4, by rw [e _ (by omega) (by omega)]; exact w5, fun j hj => by rw [e _ (by omega) (by omega)]; exact w6 j hj, by rw [e _ (by omega) (by omega)]; exact w7, fun j hj => by rw [e _ (by omega) (by omega)]; exact w8 j hj, fun p hp => ?_⟩
      rw [e0] at hp
      by_cases hpm : p = σ (62 * d)
      · subst hpm; rw [ek, en, em0]; exact ⟨by assumption, by decide⟩
      · rw [e _ (by omega) (by omega), e _ (by omega) (by omega), e _ (by omega) (by omega)]; exact w9 p (by omega)
    · have ed : ∀ y, y < 62 → pappend σ c k n (62 * d + y) = σ (62 * d + y) := fun y hy => e _ (by omega) (by rcases Nat.lt_trichotomy d c with q | q | q <;> omega)
      have ed0 : pappend σ c k n (62 * d) = σ (62 * d) := ed 0 (by decide)
      refine ⟨by rw [ed0]; exact w1, by rw [ed0, ed 1 (by decide)]; exact w2, by rw [ed 2 (by decide)]; exact w3, by rw [ed 3 (by decide)]; exact w4, by rw [ed 4 (by decide)]; exact w5, fun j hj => by rw [ed (5 + j) (by omega)]; exact w6 j hj, by rw [ed 9 (by decide)]; exact w7, fun j hj => by rw [ed (10 + j) (by omega)]; exact w8 j hj, fun p hp => ?_⟩
      rw [ed0] at hp
      rw [ed (14 + 3 * p) (by omega), ed (14 + 3 * p + 1) (by omega), ed (14 + 3 * p + 2) (by omega)]
      exact w9 p hp
section KEEP
variable {g : pG}
theorem gs_recs {σ : Nat → Nat} (h : gG g) (hs : gs σ 100000) : gG (gset (grec g) σ) := gG_set (gG_rec h) hs
theorem keep_add {a b c : Int32} (h : gG g) : gG (padd g a b c).2 := by
  unfold padd
  split
  · rename_i h1
    split
    · rename_i h2
      split
      · exact h
      · rename_i h3
        rcases xrng a 0 7 (by decide) (by decide) with ⟨d, _, hd, rfl⟩ | ⟨hn, _⟩
        · rw [ix_n (by omega)] at h3 ⊢
          have hm := (h.1.1.2.2.1 d (by omega)).1
          have hp : pok (ix b) (ix c) := by
            unfold pargB at h2
            simp only [Bool.and_eq_true] at h2
            exact pokb_iff.mp h2.2.2
          have e496 : pappend (gσ g) d (ix b) (ix c) 496 = gσ g 496 := by
            unfold pappend; rw [su_ne (by omega), su_ne (by omega), su_ne (by omega), su_ne (by omega)]
          exact gs_recs h ⟨by rw [e496]; exact wfA_append h.1.1 (by omega) (by omega) hp, by rw [e496]; exact h.1.2⟩
        · exact absurd h1 hn
    · exact h
  · exact h
theorem keep_prefer {a b : Int32} (h : gG g) : gG (pprefer g a b).2 := by
  unfold pprefer
  split
  · rename_i h1
    split
    · rename_i h2
      rcases xrng a 0 7 (by decide) (by decide) with ⟨d, _, hd, rfl⟩ | ⟨hn, _⟩
      · rcases xrng b 0 9 (by decide) (by decide) with ⟨k, _, hk, rfl⟩ | ⟨hn, _⟩
        · rw [ix_n (by omega), ix_n (by omega)]
          exact gs_recs h ⟨by rw [su_ne (by omega)]; exact wfA_3 h.1.1 (by omega) hk, by rw [su_ne (by omega)]; exact h.1.2⟩
        · exact absurd h2 hn
      · exact absurd h1 hn
    · exact h
  · exact h
theorem keep_post {a b : Int32} (h : gG g) : gG (ppost g a b).2 := by
  unfold ppost
  split
  · rename_i h1
    split
    · rename_i h2
      split
      · exact h
      · rename_i h3
        rcases xrng a 0 7 (by decide) (by decide) with ⟨d, _, hd, rfl⟩ | ⟨hn, _⟩
        · rcases xrng b 0 999 (by decide) (by decide) with ⟨k, _, hk, rfl⟩ | ⟨hn, _⟩
          · rw [ix_n (by omega)] at h3 ⊢
            rw [ix_n (by omega)]
            have h4 := (h.1.1.2.2.1 d (by omega)).2.2.2.2.1
            have e496 : precv (gσ g) d k 496 = gσ g 496 := by unfold precv; rw [su_ne (by omega), su_ne (by omega)]
            exact gs_recs h ⟨by rw [e496]; exact wfA_recv h.1.1 (by omega) (by omega) (by omega), by rw [e496]; exact h.1.2⟩
          · exact absurd h2 hn
        · exact absurd h1 hn
    · exact h
  · exact h
theorem keep_release {a : Int32} (h : gG g) : gG (prelease g a).2 := by
  unfold prelease
  split
  · rename_i h1
    split
    · exact h
    · rcases xrng a 0 3 (by decide) (by decide) with ⟨d, _, hd, rfl⟩ | ⟨hn, _⟩
      · rw [ix_n (by omega)]
        exact gs_recs h ⟨by rw [su_ne (by omega)]; exact wfA_h h.1.1 (by omega) (by decide), by rw [su_ne (by omega)]; exact h.1.2⟩
      · exact absurd h1 hn
  · exact h
theorem gs_le {σ : Nat → Nat} {n m : Nat} (h : gs σ n) (hm : σ 496 ≤ m) : gs σ m := ⟨h.1, hm⟩
theorem keep_step {a : Int32} (h : gG g) : gG (pstep g a).2 := by
  unfold pstep
  split
  · rename_i h1
    split
    · exact h
    · rename_i h2
      rcases xrng a 1 200 (by decide) (by decide) with ⟨d, _, hd, rfl⟩ | ⟨hn, _⟩
      · rw [ix_n (by omega)] at h2 ⊢
        obtain ⟨q1, q2⟩ := pslots_gs h.1 d (by omega)
        exact gs_recs h (gs_le q1 (by rw [q2]; omega))
      · exact absurd h1 hn
  · exact h
theorem keep_run (h : gG g) : gG (prun g).2 := by
  unfold prun
  split
  · exact h
  · rename_i h2
    have hk := prunN_le (gσ g)
    obtain ⟨q1, q2⟩ := pslots_gs h.1 (prunN (gσ g)) (by omega)
    exact gs_recs h (gs_le q1 (by rw [q2]; omega))
theorem keep_undo (h : gG g) : gG (pundo g).2 := by
  unfold pundo
  split
  · exact h
  · exact gG_undo h (by omega)
theorem keep_save {a : Int32} (h : gG g) : gG (psave g a).2 := by
  unfold psave
  split
  · exact gG_save h
  · exact h
theorem keep_restore {a : Int32} (h : gG g) : gG (prestore g a).2 := by
  unfold prestore
  split
  · rename_i h1
    split
    · rename_i h2
      rcases xrng a 0 1 (by decide) (by decide) with ⟨d, _, hd, rfl⟩ | ⟨hn, _⟩
      · rw [ix_n (by omega)] at h2 ⊢
        exact gs_recs h (h.2.2.2.1 d (by omega) h2)
      · exact absurd h1 hn
    · exact h
  · exact h
end KEEP

