/-! ===== the law's own words, of numbers alone ===== -/
def isErr (r : Int32) : Prop := r < nI 0 ∧ ¬ r = -6
def isOp (F : pG → pR) : Prop := (∃ a b, F = fun g => pprefer g a b) ∨ (∃ a b, F = fun g => ppost g a b) ∨ (∃ a, F = fun g => prelease g a) ∨ F = prun ∨ (∃ a, F = fun g => pstep g a) ∨ ∃ a b c, F = fun g => padd g a b c
def papp (r : Int32) (t : Option (Nat → Nat)) (g : pG) : pR := (r, match t with
  | none => g
  | some τ => gset (grec g) τ)
theorem papp_n {r : Int32} {g : pG} : papp r none g = (r, g) := rfl
theorem papp_s {r : Int32} {g : pG} {τ : Nat → Nat} : papp r (some τ) g = (r, gset (grec g) τ) := rfl
theorem notErr_n {k : Nat} (h : k < 2147483648) : ¬ isErr (nI k) := fun z => by
  have := (xn_lt h (by decide)).mp z.1
  omega
theorem notErr_6 : ¬ isErr (-6) := fun z => z.2 rfl
theorem err_1 : isErr (-1) := ⟨by decide, by decide⟩
theorem err_2 : isErr (-2) := ⟨by decide, by decide⟩
theorem err_4 : isErr (-4) := ⟨by decide, by decide⟩
theorem err_5 : isErr (-5) := ⟨by decide, by decide⟩
theorem notErr_rv {r : Option Nat} (h : ∀ c, r = some c → c < 8) : ¬ isErr (rv r) := by
  cases r with
  | none => exact notErr_6
  | some c => exact notErr_n (by have := h c rfl; omega)
section OPS
variable {g : pG} {F : pG → pR}
def opFacts (F : pG → pR) (g : pG) : Prop := ∃ r t, (∀ g', gσ g' = gσ g → F g' = papp r t g') ∧ (t = none ↔ isErr r) ∧ ∀ τ, t = some τ → acc (gσ g) → acc τ
theorem of_no {r : Int32} (h : ∀ g', gσ g' = gσ g → F g' = (r, g')) (hr : isErr r) : opFacts F g := ⟨r, none, h, ⟨fun _ => hr, fun _ => rfl⟩, fun τ h => by cases h⟩
theorem of_yes {r : Int32} {τ : Nat → Nat} (h : ∀ g', gσ g' = gσ g → F g' = (r, gset (grec g') τ)) (hr : ¬ isErr r) (ha : acc (gσ g) → acc τ) : opFacts F g := ⟨r, some τ, h, ⟨fun h => (by cases h), fun h => absurd h hr⟩, fun τ' h => by cases h; exact ha⟩
theorem op_prefer {a b : Int32} (hG : gG g) : opFacts (fun g => pprefer g a b) g := by
  rcases xrng a 0 7 (by decide) (by decide) with ⟨d, _, hd, rfl⟩ | ⟨hn, _⟩
  · have h1 := rng_n (Nat.zero_le d) hd (by decide)
    rcases xrng b 0 9 (by decide) (by decide) with ⟨k, _, hk, rfl⟩ | ⟨hn, _⟩
    · have h2 := rng_n (Nat.zero_le k) hk (by decide)
      refine of_yes (r := nI (gσ g (62 * d + 3))) (τ := su (gσ g) (62 * d + 3) k) (fun g' hg => ?_) (notErr_n (by have := hG.1.1.1 (62 * d + 3); omega)) (fun h => acc_o h (su_ne (by omega)) (fun c j hc hj => su_ne (by omega)))
      show pprefer g' (nI d) (nI k) = _
      unfold pprefer
      rw [if_pos h1, if_pos h2, ix_n (by omega), ix_n (by omega), hg]
    · refine of_no (r := -2) (fun g' hg => ?_) err_2
      show pprefer g' (nI d) b = _
      unfold pprefer
      rw [if_pos h1, if_neg hn]
  · refine of_no (r := -1) (fun g' hg => ?_) err_1
    show pprefer g' a b = _
    unfold pprefer
    rw [if_neg hn]
theorem op_post {a b : Int32} (hG : gG g) : opFacts (fun g => ppost g a b) g := by
  rcases xrng a 0 7 (by decide) (by decide) with ⟨d, _, hd, rfl⟩ | ⟨hn, _⟩
  · have h1 := rng_n (Nat.zero_le d) hd (by decide)
    have h4 := (hG.1.1.2.2.1 d (by omega)).2.2.2.2.1
    rcases xrng b 0 999 (by decide) (by decide) with ⟨k, _, hk, rfl⟩ | ⟨hn, _⟩
    · have h2 := rng_n (Nat.zero_le k) hk (by decide)
      by_cases h3 : gσ g (62 * d + 4) = 4
      · refine of_no (r := -4) (fun g' hg => ?_) err_4
        show ppost g' (nI d) (nI k) = _
        unfold ppost
        rw [if_pos h1, if_pos h2, ix_n (by omega), hg, if_pos h3]
      · refine of_yes (r := nI (gσ g (62 * d + 4) + 1)) (τ := precv (gσ g) d k) (fun g' hg => ?_) (notErr_n (by omega)) (fun h => acc_o h ?_ (fun c j hc hj => ?_))
        · show ppost g' (nI d) (nI k) = _
          unfold ppost
          rw [if_pos h1, if_pos h2, ix_n (by omega), ix_n (by omega), hg, if_neg h3]
        · unfold precv; rw [su_ne (by omega), su_ne (by omega)]
        · unfold precv; rw [su_ne (by omega), su_ne (by rcases Nat.lt_trichotomy c d with q | q | q <;> omega)]
    · refine of_no (r := -2) (fun g' hg => ?_) err_2
      show ppost g' (nI d) b = _
      unfold ppost
      rw [if_pos h1, if_neg hn]
  · refine of_no (r := -1) (fun g' hg => ?_) err_1
    show ppost g' a b = _
    unfold ppost
    rw [if_neg hn]
theorem op_release {a : Int32} (hG : gG g) : opFacts (fun g => prelease g a) g := by
  rcases xrng a 0 3 (by decide) (by decide) with ⟨d, _, hd, rfl⟩ | ⟨hn, _⟩
  · have h1 := rng_n (Nat.zero_le d) hd (by decide)
    by_cases h3 : gσ g (497 + d) = 0
    · refine of_no (r := -5) (fun g' hg => ?_) err_5
      show prelease g' (nI d) = _
      unfold prelease
      rw [if_pos h1, ix_n (by omega), hg, if_pos h3]
    · refine of_yes (r := nI (gσ g (497 + d) - 1)) (τ := su (gσ g) (497 + d) 0) (fun g' hg => ?_) (notErr_n (by have := hG.1.1.1 (497 + d); omega)) (fun h => acc_o h (su_ne (by omega)) (fun c j hc hj => su_ne (by omega)))
      show prelease g' (nI d) = _
      unfold prelease
      rw [if_pos h1, ix_n (by omega), hg, if_neg h3]
  · refine of_no (r := -1) (fun g' hg => ?_) err_1
    show prelease g' a = _
    unfold prelease
    rw [if_neg hn]
theorem op_run (hG : gG g) : opFacts prun g := by
  by_cases h1 : 99000 < gσ g 496
  · refine of_no (r := -4) (fun g' hg => ?_) err_4
    unfold prun
    rw [hg, if_pos h1]
  · have hk := prunN_le (gσ g)
    refine of_yes (r := nI (prunN (gσ g))) (τ := pslots (prunN (gσ g)) (gσ g)) (fun g' hg => ?_) (notErr_n (by omega)) (fun h => acc_slots hG.1 h _ (by omega))
    unfold prun
    rw [hg, if_neg h1]
theorem op_step {a : Int32} (hG : gG g) : opFacts (fun g => pstep g a) g := by
  rcases xrng a 1 200 (by decide) (by decide) with ⟨d, hd1, hd, rfl⟩ | ⟨hn, _⟩
  · have h1 := rng_n hd1 hd (by decide)
    by_cases h3 : 100000 < gσ g 496 + d
    · refine of_no (r := -4) (fun g' hg => ?_) err_4
      show pstep g' (nI d) = _
      unfold pstep
      rw [if_pos h1, ix_n (by omega), hg, if_pos h3]
    · refine of_yes (r := plast (gσ g) d) (τ := pslots d (gσ g)) (fun g' hg => ?_) ?_ (fun h => acc_slots hG.1 h _ (by omega))
      · show pstep g' (nI d) = _
        unfold pstep
        rw [if_pos h1, ix_n (by omega), hg, if_neg h3]
      · obtain ⟨m, rfl⟩ : ∃ m, d = m + 1 := ⟨d - 1, by omega⟩
        exact notErr_rv (fun c hc => (prunner_1 (Nat.mod_lt _ (by decide)) hc).1)
  · refine of_no (r := -2) (fun g' hg => ?_) err_2
    show pstep g' a = _
    unfold pstep
    rw [if_neg hn]
theorem op_add {a b c : Int32} (hG : gG g) : opFacts (fun g => padd g a b c) g := by
  rcases xrng a 0 7 (by decide) (by decide) with ⟨d, _, hd, rfl⟩ | ⟨hn, _⟩
  · have h1 := rng_n (Nat.zero_le d) hd (by decide)
    have hm := (hG.1.1.2.2.1 d (by omega)).1
    by_cases h2 : pargB b c = true
    · by_cases h3 : gσ g (62 * d) = 16
      · refine of_no (r := -4) (fun g' hg => ?_) err_4
        show padd g' (nI d) b c = _
        unfold padd
        rw [if_pos h1, if_pos h2, ix_n (by omega), hg, if_pos h3]
      · refine of_yes (r := nI (gσ g (62 * d) + 1)) (τ := pappend (gσ g) d (ix b) (ix c)) (fun g' hg => ?_) (notErr_n (by omega)) (fun h => acc_o h ?_ (fun e j he hj => ?_))
        · show padd g' (nI d) b c = _
          unfold padd
          rw [if_pos h1, if_pos h2, ix_n (by omega), hg, if_neg h3]
        · unfold pappend; rw [su_ne (by omega), su_ne (by omega), su_ne (by omega), su_ne (by omega)]
        · unfold pappend; rw [su_ne (by omega), su_ne (by rcases Nat.lt_trichotomy e d with q | q | q <;> omega), su_ne (by rcases Nat.lt_trichotomy e d with q | q | q <;> omega), su_ne (by rcases Nat.lt_trichotomy e d with q | q | q <;> omega)]
    · refine of_no (r := -2) (fun g' hg => ?_) err_2
      show padd g' (nI d) b c = _
      unfold padd
      rw [if_pos h1, if_neg h2]
  · refine of_no (r := -1) (fun g' hg => ?_) err_1
    show padd g' a b c = _
    unfold padd
    rw [if_neg hn]
theorem op_facts (hF : isOp F) (hG : gG g) : opFacts F g := by
  rcases hF with ⟨a, b, rfl⟩ | ⟨a, b, rfl⟩ | ⟨a, rfl⟩ | rfl | ⟨a, rfl⟩ | ⟨a, b, c, rfl⟩
  · exact op_prefer hG
  · exact op_post hG
  · exact op_release hG
  · exact op_run hG
  · exact op_step hG
  · exact op_add hG
theorem op_keep (hF : isOp F) (hG : gG g) : gG (F g).2 := by
  rcases hF with ⟨a, b, rfl⟩ | ⟨a, b, rfl⟩ | ⟨a, rfl⟩ | rfl | ⟨a, rfl⟩ | ⟨a, b, c, rfl⟩
  · exact keep_prefer hG
  · exact keep_post hG
  · exact keep_release hG
  · exact keep_run hG
  · exact keep_step hG
  · exact keep_add hG
/-! the history -/
theorem grec_u (h : gu g ≤ 6) : gu (grec g) = if gu g = 6 then 6 else gu g + 1 := by
  unfold grec
  by_cases h6 : gu g = 6
  · rw [if_pos h6, if_pos h6]; rfl
  · rw [if_neg h6, if_neg h6]; rfl
theorem grec_top (h : gu g ≤ 6) : gU (grec g) (gu (grec g) - 1) = gσ g := by
  rw [grec_u h]
  unfold grec
  by_cases h6 : gu g = 6
  · rw [if_pos h6, if_pos h6]; rfl
  · rw [if_neg h6, if_neg h6]
    show (if gu g + 1 - 1 = gu g then gσ g else gU g (gu g + 1 - 1)) = gσ g
    rw [if_pos (by omega)]
end OPS
/-! the digest -/
def dcnt (σ : Nat → Nat) (n : Nat) (h : Int64) : Int64 := itN (fun w h => lN 31 * h + (pcountv (σ, g0.2) w).toInt64) n h
def dof (σ : Nat → Nat) (k n : Nat) (h : Int64) : Int64 := itN (fun w h => lN 31 * h + (nI (pofv σ k w)).toInt64) n h
def din (σ : Nat → Nat) (k n : Nat) (h : Int64) : Int64 := itN (fun e h => lN 31 * h + (nI (σ (62 * k + (5 + e)))).toInt64) n h
def dcm (σ : Nat → Nat) (k n : Nat) (h : Int64) : Int64 := itN (fun e h => lN 31 * (lN 31 * (lN 31 * h + (nI (σ (62 * k + (14 + 3 * e + 0)))).toInt64) + (nI (σ (62 * k + (14 + 3 * e + 1)))).toInt64) + (nI (σ (62 * k + (14 + 3 * e + 2)))).toInt64) n h
def dctx (σ : Nat → Nat) (n : Nat) (h : Int64) : Int64 := itN (fun k h => dcm σ k (σ (62 * k)) (din σ k (σ (62 * k + 4)) (dof σ k 14 h))) n h
def dlk (σ : Nat → Nat) (n : Nat) (h : Int64) : Int64 := itN (fun l h => lN 31 * h + (hI (σ (497 + l))).toInt64) n h
def dig (σ : Nat → Nat) : Int64 := dlk σ 4 (dctx σ 8 (dcnt σ 8 (lN 3)))
section DIG
variable {g : pG} {k e w l c : Nat}
theorem pcount_n (h : w < 10) : pcount g (nI w) = (pcountv g w, g) := by
  unfold pcount; rw [if_pos (rng_n (Nat.zero_le w) (show w ≤ 9 by omega) (by decide)), ix_n (by omega)]
theorem pcountv_s (h : w < 8) : pcountv g w = pcountv (gσ g, g0.2) w := by
  have hc : w = 0 ∨ w = 1 ∨ w = 2 ∨ w = 3 ∨ w = 4 ∨ w = 5 ∨ w = 6 ∨ w = 7 := by omega
  rcases hc with rfl | rfl | rfl | rfl | rfl | rfl | rfl | rfl
  · rw [pcountv_0, pcountv_0]; rfl
  · rw [pcountv_1, pcountv_1]; rfl
  · rw [pcountv_2, pcountv_2]; rfl
  · rw [pcountv_3, pcountv_3]; rfl
  · rw [pcountv_4, pcountv_4]; rfl
  · rw [pcountv_5, pcountv_5]; rfl
  · rw [pcountv_6, pcountv_6]; rfl
  · rw [pcountv_7, pcountv_7]; rfl
theorem pof_n (hk : k < 8) (h : w < 14) : pof g (nI k) (nI w) = (nI (pofv (gσ g) k w), g) := by
  unfold pof; rw [if_pos (ctx_n hk), if_pos (rng_n (Nat.zero_le w) (show w ≤ 13 by omega) (by decide)), ix_n (by omega), ix_n (by omega)]
theorem pinbox_n (hG : gG g) (hk : k < 8) (h : e < gσ g (62 * k + 4)) : pinbox g (nI k) (nI e) = (nI (gσ g (62 * k + (5 + e))), g) := by
  have hb := hG.1.1.1 (62 * k + 4)
  unfold pinbox; rw [if_pos (ctx_n hk), ix_n (c := k) (by omega), if_pos (idx_n h (by omega)), ix_n (by omega)]
theorem pcommand_n (hG : gG g) (hk : k < 8) (h : e < gσ g (62 * k)) (hc : c < 3) : pcommand g (nI k) (nI e) (nI c) = (nI (gσ g (62 * k + (14 + 3 * e + c))), g) := by
  have hb := hG.1.1.1 (62 * k)
  unfold pcommand; rw [if_pos (ctx_n hk), ix_n (c := k) (by omega), if_pos (idx_n h (by omega)), if_pos (rng_n (Nat.zero_le c) (show c ≤ 2 by omega) (by decide)), ix_n (by omega), ix_n (by omega)]
theorem pholder_n (hl : l < 4) : pholder g (nI l) = (hI (gσ g (497 + l)), g) := by
  unfold pholder; rw [if_pos (rng_n (Nat.zero_le l) (show l ≤ 3 by omega) (by decide)), ix_n (by omega)]
  by_cases h : gσ g (497 + l) = 0
  · rw [if_pos h, h]; rfl
  · rw [if_neg h, hI_s h]
end DIG
