/-! ===== a slot keeps a state well ===== -/
def wfcN (σ : Nat → Nat) (c N : Nat) : Prop :=
  σ (62 * c) ≤ 16 ∧ σ (62 * c + 1) ≤ σ (62 * c) ∧ σ (62 * c + 2) < 1000 ∧ σ (62 * c + 3) ≤ 9 ∧ σ (62 * c + 4) ≤ 4 ∧ (∀ j, j < 4 → σ (62 * c + (5 + j)) < 1000) ∧ σ (62 * c + 9) ≤ 99 ∧ (∀ j, j < 4 → σ (62 * c + (10 + j)) ≤ N) ∧
  ∀ p, p < σ (62 * c) → pok (σ (62 * c + (14 + 3 * p))) (σ (62 * c + (14 + 3 * p + 1))) ∧ σ (62 * c + (14 + 3 * p + 2)) ≤ 1
/-- a state that is well, no account above N, nothing behind its cells -/
def wfA (σ : Nat → Nat) (N : Nat) : Prop := (∀ i, σ i ≤ 200000) ∧ (∀ i, 502 ≤ i → σ i = 0) ∧ (∀ c, c < 8 → wfcN σ c N) ∧ ∀ k, k < 4 → σ (497 + k) ≤ 8
theorem wf_A {σ : Nat → Nat} (h : wfA σ (σ 496)) : wf σ := ⟨h.1, h.2.2.1, h.2.2.2⟩
theorem wfA_c {σ : Nat → Nat} {c j v N : Nat} (h : wfA σ N) (hc : c < 8) (hj : j < 62) (hv : v ≤ 200000) (hw : wfcN (su σ (62 * c + j) v) c N) : wfA (su σ (62 * c + j) v) N := by
  obtain ⟨h1, h2, h3, h4⟩ := h
  refine ⟨fun i => ?_, fun i hi => by rw [su_ne (by omega)]; exact h2 i hi, fun d hd => ?_, fun k hk => by rw [su_ne (by omega)]; exact h4 k hk⟩
  · unfold su; split
    · exact hv
    · exact h1 i
  · by_cases hdc : d = c
    · subst hdc; exact hw
    · obtain ⟨w1, w2, w3, w4, w5, w6, w7, w8, w9⟩ := h3 d hd
      have e : ∀ x, x < 62 → su σ (62 * c + j) v (62 * d + x) = σ (62 * d + x) := fun x hx => su_ne (by rcases Nat.lt_trichotomy d c with q | q | q <;> omega)
      have e0 : su σ (62 * c + j) v (62 * d) = σ (62 * d) := e 0 (by decide)
      refine ⟨by rw [e0]; exact w1, by rw [e0, e 1 (by decide)]; exact w2, by rw [e 2 (by decide)]; exact w3, by rw [e 3 (by decide)]; exact w4, by rw [e 4 (by decide)]; exact w5, fun x hx => by rw [e (5 + x) (by omega)]; exact w6 x hx, by rw [e 9 (by decide)]; exact w7, fun x hx => by rw [e (10 + x) (by omega)]; exact w8 x hx, fun p hp => ?_⟩
      rw [e0] at hp
      have := w9 p hp
      rw [e (14 + 3 * p) (by omega), e (14 + 3 * p + 1) (by omega), e (14 + 3 * p + 2) (by omega)]
      exact this
section WFA
variable {σ : Nat → Nat} {c N v : Nat}
theorem wfA_1 (h : wfA σ N) (hc : c < 8) (hv : v ≤ σ (62 * c)) : wfA (su σ (62 * c + 1) v) N := by
  obtain ⟨w1, w2, w3, w4, w5, w6, w7, w8, w9⟩ := h.2.2.1 c hc
  refine wfA_c h hc (by decide) (by omega) ⟨by simp (disch := (first | assumption | exact xnl_i _ | exact xnl_r _ | exact xnl_n | exact Bool.toNat_lt _ | exact hb _ | exact hb2 _ | omega | exact Nat.le_of_ble_eq_true rfl | rfl | decide)) only [su_eq, su_ne]; exact w1, by simp (disch := (first | assumption | exact xnl_i _ | exact xnl_r _ | exact xnl_n | exact Bool.toNat_lt _ | exact hb _ | exact hb2 _ | omega | exact Nat.le_of_ble_eq_true rfl | rfl | decide)) only [su_eq, su_ne]; exact hv, by simp (disch := (first | assumption | exact xnl_i _ | exact xnl_r _ | exact xnl_n | exact Bool.toNat_lt _ | exact hb _ | exact hb2 _ | omega | exact Nat.le_of_ble_eq_true rfl | rfl | decide)) only [su_eq, su_ne]; exact w3, by simp (disch := (first | assumption | exact xnl_i _ | exact xnl_r _ | exact xnl_n | exact Bool.toNat_lt _ | exact hb _ | exact hb2 _ | omega | exact Nat.le_of_ble_eq_true rfl | rfl | decide)) only [su_eq, su_ne]; exact w4, by simp (disch := (first | assumption | exact xnl_i _ | exact xnl_r _ | exact xnl_n | exact Bool.toNat_lt _ | exact hb _ | exact hb2 _ | omega | exact Nat.le_of_ble_eq_true rfl | rfl | decide)) only [su_eq, su_ne]; exact w5, fun j hj => by simp (disch := (first | assumption | exact xnl_i _ | exact xnl_r _ | exact xnl_n | exact Bool.toNat_lt _ | exact hb _ | exact hb2 _ | omega | exact Nat.le_of_ble_eq_true rfl | rfl | decide)) only [su_eq, su_ne]; exact w6 j hj, by simp (disch := (first | assumption | exact xnl_i _ | exact xnl_r _ | exact xnl_n | exact Bool.toNat_lt _ | exact hb _ | exact hb2 _ | omega | exact Nat.le_of_ble_eq_true rfl | rfl | decide)) only [su_eq, su_ne]; exact w7, fun j hj => by simp (disch := (first | assumption | exact xnl_i _ | exact xnl_r _ | exact xnl_n | exact Bool.toNat_lt _ | exact hb _ | exact hb2 _ | omega | exact Nat.le_of_ble_eq_true rfl | rfl | decide)) only [su_eq, su_ne]; exact w8 j hj, fun p hp => ?_⟩
  rw [su_ne (by omega)] at hp
  simp (disch := (first | assumption | exact xnl_i _ | exact xnl_r _ | exact xnl_n | exact Bool.toNat_lt _ | exact hb _ | exact hb2 _ | omega | exact Nat.le_of_ble_eq_true rfl | rfl | decide)) only [su_eq, su_ne]
  exact w9 p hp
theorem wfA_2 (h : wfA σ N) (hc : c < 8) (hv : v < 1000) : wfA (su σ (62 * c + 2) v) N := by
  obtain ⟨w1, w2, w3, w4, w5, w6, w7, w8, w9⟩ := h.2.2.1 c hc
  refine wfA_c h hc (by decide) (by omega) ⟨by simp (disch := (first | assumption | exact xnl_i _ | exact xnl_r _ | exact xnl_n | exact Bool.toNat_lt _ | exact hb _ | exact hb2 _ | omega | exact Nat.le_of_ble_eq_true rfl | rfl | decide)) only [su_eq, su_ne]; exact w1, by simp (disch := (first | assumption | exact xnl_i _ | exact xnl_r _ | exact xnl_n | exact Bool.toNat_lt _ | exact hb _ | exact hb2 _ | omega | exact Nat.le_of_ble_eq_true rfl | rfl | decide)) only [su_eq, su_ne]; exact w2, by simp (disch := (first | assumption | exact xnl_i _ | exact xnl_r _ | exact xnl_n | exact Bool.toNat_lt _ | exact hb _ | exact hb2 _ | omega | exact Nat.le_of_ble_eq_true rfl | rfl | decide)) only [su_eq, su_ne]; exact hv, by simp (disch := (first | assumption | exact xnl_i _ | exact xnl_r _ | exact xnl_n | exact Bool.toNat_lt _ | exact hb _ | exact hb2 _ | omega | exact Nat.le_of_ble_eq_true rfl | rfl | decide)) only [su_eq, su_ne]; exact w4, by simp (disch := (first | assumption | exact xnl_i _ | exact xnl_r _ | exact xnl_n | exact Bool.toNat_lt _ | exact hb _ | exact hb2 _ | omega | exact Nat.le_of_ble_eq_true rfl | rfl | decide)) only [su_eq, su_ne]; exact w5, fun j hj => by simp (disch := (first | assumption | exact xnl_i _ | exact xnl_r _ | exact xnl_n | exact Bool.toNat_lt _ | exact hb _ | exact hb2 _ | omega | exact Nat.le_of_ble_eq_true rfl | rfl | decide)) only [su_eq, su_ne]; exact w6 j hj, by simp (disch := (first | assumption | exact xnl_i _ | exact xnl_r _ | exact xnl_n | exact Bool.toNat_lt _ | exact hb _ | exact hb2 _ | omega | exact Nat.le_of_ble_eq_true rfl | rfl | decide)) only [su_eq, su_ne]; exact w7, fun j hj => by simp (disch := (first | assumption | exact xnl_i _ | exact xnl_r _ | exact xnl_n | exact Bool.toNat_lt _ | exact hb _ | exact hb2 _ | omega | exact Nat.le_of_ble_eq_true rfl | rfl | decide)) only [su_eq, su_ne]; exact w8 j hj, fun p hp => ?_⟩
  rw [su_ne (by omega)] at hp
  simp (disch := (first | assumption | exact xnl_i _ | exact xnl_r _ | exact xnl_n | exact Bool.toNat_lt _ | exact hb _ | exact hb2 _ | omega | exact Nat.le_of_ble_eq_true rfl | rfl | decide)) only [su_eq, su_ne]
  exact w9 p hp
theorem wfA_3 (h : wfA σ N) (hc : c < 8) (hv : v ≤ 9) : wfA (su σ (62 * c + 3) v) N := by
  obtain ⟨w1, w2, w3, w4, w5, w6, w7, w8, w9⟩ := h.2.2.1 c hc
  refine wfA_c h hc (by decide) (by omega) ⟨by simp (disch := (first | assumption | exact xnl_i _ | exact xnl_r _ | exact xnl_n | exact Bool.toNat_lt _ | exact hb _ | exact hb2 _ | omega | exact Nat.le_of_ble_eq_true rfl | rfl | decide)) only [su_eq, su_ne]; exact w1, by simp (disch := (first | assumption | exact xnl_i _ | exact xnl_r _ | exact xnl_n | exact Bool.toNat_lt _ | exact hb _ | exact hb2 _ | omega | exact Nat.le_of_ble_eq_true rfl | rfl | decide)) only [su_eq, su_ne]; exact w2, by simp (disch := (first | assumption | exact xnl_i _ | exact xnl_r _ | exact xnl_n | exact Bool.toNat_lt _ | exact hb _ | exact hb2 _ | omega | exact Nat.le_of_ble_eq_true rfl | rfl | decide)) only [su_eq, su_ne]; exact w3, by simp (disch := (first | assumption | exact xnl_i _ | exact xnl_r _ | exact xnl_n | exact Bool.toNat_lt _ | exact hb _ | exact hb2 _ | omega | exact Nat.le_of_ble_eq_true rfl | rfl | decide)) only [su_eq, su_ne]; exact hv, by simp (disch := (first | assumption | exact xnl_i _ | exact xnl_r _ | exact xnl_n | exact Bool.toNat_lt _ | exact hb _ | exact hb2 _ | omega | exact Nat.le_of_ble_eq_true rfl | rfl | decide)) only [su_eq, su_ne]; exact w5, fun j hj => by simp (disch := (first | assumption | exact xnl_i _ | exact xnl_r _ | exact xnl_n | exact Bool.toNat_lt _ | exact hb _ | exact hb2 _ | omega | exact Nat.le_of_ble_eq_true rfl | rfl | decide)) only [su_eq, su_ne]; exact w6 j hj, by simp (disch := (first | assumption | exact xnl_i _ | exact xnl_r _ | exact xnl_n | exact Bool.toNat_lt _ | exact hb _ | exact hb2 _ | omega | exact Nat.le_of_ble_eq_true rfl | rfl | decide)) only [su_eq, su_ne]; exact w7, fun j hj => by simp (disch := (first | assumption | exact xnl_i _ | exact xnl_r _ | exact xnl_n | exact Bool.toNat_lt _ | exact hb _ | exact hb2 _ | omega | exact Nat.le_of_ble_eq_true rfl | rfl | decide)) only [su_eq, su_ne]; exact w8 j hj, fun p hp => ?_⟩
  rw [su_ne (by omega)] at hp
  simp (disch := (first | assumption | exact xnl_i _ | exact xnl_r _ | exact xnl_n | exact Bool.toNat_lt _ | exact hb _ | exact hb2 _ | omega | exact Nat.le_of_ble_eq_true rfl | rfl | decide)) only [su_eq, su_ne]
  exact w9 p hp
theorem wfA_4 (h : wfA σ N) (hc : c < 8) (hv : v ≤ 4) : wfA (su σ (62 * c + 4) v) N := by
  obtain ⟨w1, w2, w3, w4, w5, w6, w7, w8, w9⟩ := h.2.2.1 c hc
  refine wfA_c h hc (by decide) (by omega) ⟨by simp (disch := (first | assumption | exact xnl_i _ | exact xnl_r _ | exact xnl_n | exact Bool.toNat_lt _ | exact hb _ | exact hb2 _ | omega | exact Nat.le_of_ble_eq_true rfl | rfl | decide)) only [su_eq, su_ne]; exact w1, by simp (disch := (first | assumption | exact xnl_i _ | exact xnl_r _ | exact xnl_n | exact Bool.toNat_lt _ | exact hb _ | exact hb2 _ | omega | exact Nat.le_of_ble_eq_true rfl | rfl | decide)) only [su_eq, su_ne]; exact w2, by simp (disch := (first | assumption | exact xnl_i _ | exact xnl_r _ | exact xnl_n | exact Bool.toNat_lt _ | exact hb _ | exact hb2 _ | omega | exact Nat.le_of_ble_eq_true rfl | rfl | decide)) only [su_eq, su_ne]; exact w3, by simp (disch := (first | assumption | exact xnl_i _ | exact xnl_r _ | exact xnl_n | exact Bool.toNat_lt _ | exact hb _ | exact hb2 _ | omega | exact Nat.le_of_ble_eq_true rfl | rfl | decide)) only [su_eq, su_ne]; exact w4, by simp (disch := (first | assumption | exact xnl_i _ | exact xnl_r _ | exact xnl_n | exact Bool.toNat_lt _ | exact hb _ | exact hb2 _ | omega | exact Nat.le_of_ble_eq_true rfl | rfl | decide)) only [su_eq, su_ne]; exact hv, fun j hj => by simp (disch := (first | assumption | exact xnl_i _ | exact xnl_r _ | exact xnl_n | exact Bool.toNat_lt _ | exact hb _ | exact hb2 _ | omega | exact Nat.le_of_ble_eq_true rfl | rfl | decide)) only [su_eq, su_ne]; exact w6 j hj, by simp (disch := (first | assumption | exact xnl_i _ | exact xnl_r _ | exact xnl_n | exact Bool.toNat_lt _ | exact hb _ | exact hb2 _ | omega | exact Nat.le_of_ble_eq_true rfl | rfl | decide)) only [su_eq, su_ne]; exact w7, fun j hj => by simp (disch := (first | assumption | exact xnl_i _ | exact xnl_r _ | exact xnl_n | exact Bool.toNat_lt _ | exact hb _ | exact hb2 _ | omega | exact Nat.le_of_ble_eq_true rfl | rfl | decide)) only [su_eq, su_ne]; exact w8 j hj, fun p hp => ?_⟩
  rw [su_ne (by omega)] at hp
  simp (disch := (first | assumption | exact xnl_i _ | exact xnl_r _ | exact xnl_n | exact Bool.toNat_lt _ | exact hb _ | exact hb2 _ | omega | exact Nat.le_of_ble_eq_true rfl | rfl | decide)) only [su_eq, su_ne]
  exact w9 p hp
theorem wfA_5 {q : Nat} (h : wfA σ N) (hc : c < 8) (hq : q < 4) (hv : v < 1000) : wfA (su σ (62 * c + (5 + q)) v) N := by
  obtain ⟨w1, w2, w3, w4, w5, w6, w7, w8, w9⟩ := h.2.2.1 c hc
  refine wfA_c h hc (by omega) (by omega) ⟨by simp (disch := (first | assumption | exact xnl_i _ | exact xnl_r _ | exact xnl_n | exact Bool.toNat_lt _ | exact hb _ | exact hb2 _ | omega | exact Nat.le_of_ble_eq_true rfl | rfl | decide)) only [su_eq, su_ne]; exact w1, by simp (disch := (first | assumption | exact xnl_i _ | exact xnl_r _ | exact xnl_n | exact Bool.toNat_lt _ | exact hb _ | exact hb2 _ | omega | exact Nat.le_of_ble_eq_true rfl | rfl | decide)) only [su_eq, su_ne]; exact w2, by simp (disch := (first | assumption | exact xnl_i _ | exact xnl_r _ | exact xnl_n | exact Bool.toNat_lt _ | exact hb _ | exact hb2 _ | omega | exact Nat.le_of_ble_eq_true rfl | rfl | decide)) only [su_eq, su_ne]; exact w3, by simp (disch := (first | assumption | exact xnl_i _ | exact xnl_r _ | exact xnl_n | exact Bool.toNat_lt _ | exact hb _ | exact hb2 _ | omega | exact Nat.le_of_ble_eq_true rfl | rfl | decide)) only [su_eq, su_ne]; exact w4, by simp (disch := (first | assumption | exact xnl_i _ | exact xnl_r _ | exact xnl_n | exact Bool.toNat_lt _ | exact hb _ | exact hb2 _ | omega | exact Nat.le_of_ble_eq_true rfl | rfl | decide)) only [su_eq, su_ne]; exact w5, fun j hj => ?_, by simp (disch := (first | assumption | exact xnl_i _ | exact xnl_r _ | exact xnl_n | exact Bool.toNat_lt _ | exact hb _ | exact hb2 _ | omega | exact Nat.le_of_ble_eq_true rfl | rfl | decide)) only [su_eq, su_ne]; exact w7, fun j hj => by simp (disch := (first | assumption | exact xnl_i _ | exact xnl_r _ | exact xnl_n | exact Bool.toNat_lt _ | exact hb _ | exact hb2 _ | omega | exact Nat.le_of_ble_eq_true rfl | rfl | decide)) only [su_eq, su_ne]; exact w8 j hj, fun p hp => ?_⟩
  · unfold su; split
    · exact hv
    · exact w6 j hj
  · rw [su_ne (by omega)] at hp
    simp (disch := (first | assumption | exact xnl_i _ | exact xnl_r _ | exact xnl_n | exact Bool.toNat_lt _ | exact hb _ | exact hb2 _ | omega | exact Nat.le_of_ble_eq_true rfl | rfl | decide)) only [su_eq, su_ne]
    exact w9 p hp
theorem wfA_9 (h : wfA σ N) (hc : c < 8) (hv : v ≤ 99) : wfA (su σ (62 * c + 9) v) N := by
  obtain ⟨w1, w2, w3, w4, w5, w6, w7, w8, w9⟩ := h.2.2.1 c hc
  refine wfA_c h hc (by decide) (by omega) ⟨by simp (disch := (first | assumption | exact xnl_i _ | exact xnl_r _ | exact xnl_n | exact Bool.toNat_lt _ | exact hb _ | exact hb2 _ | omega | exact Nat.le_of_ble_eq_true rfl | rfl | decide)) only [su_eq, su_ne]; exact w1, by simp (disch := (first | assumption | exact xnl_i _ | exact xnl_r _ | exact xnl_n | exact Bool.toNat_lt _ | exact hb _ | exact hb2 _ | omega | exact Nat.le_of_ble_eq_true rfl | rfl | decide)) only [su_eq, su_ne]; exact w2, by simp (disch := (first | assumption | exact xnl_i _ | exact xnl_r _ | exact xnl_n | exact Bool.toNat_lt _ | exact hb _ | exact hb2 _ | omega | exact Nat.le_of_ble_eq_true rfl | rfl | decide)) only [su_eq, su_ne]; exact w3, by simp (disch := (first | assumption | exact xnl_i _ | exact xnl_r _ | exact xnl_n | exact Bool.toNat_lt _ | exact hb _ | exact hb2 _ | omega | exact Nat.le_of_ble_eq_true rfl | rfl | decide)) only [su_eq, su_ne]; exact w4, by simp (disch := (first | assumption | exact xnl_i _ | exact xnl_r _ | exact xnl_n | exact Bool.toNat_lt _ | exact hb _ | exact hb2 _ | omega | exact Nat.le_of_ble_eq_true rfl | rfl | decide)) only [su_eq, su_ne]; exact w5, fun j hj => by simp (disch := (first | assumption | exact xnl_i _ | exact xnl_r _ | exact xnl_n | exact Bool.toNat_lt _ | exact hb _ | exact hb2 _ | omega | exact Nat.le_of_ble_eq_true rfl | rfl | decide)) only [su_eq, su_ne]; exact w6 j hj, by simp (disch := (first | assumption | exact xnl_i _ | exact xnl_r _ | exact xnl_n | exact Bool.toNat_lt _ | exact hb _ | exact hb2 _ | omega | exact Nat.le_of_ble_eq_true rfl | rfl | decide)) only [su_eq, su_ne]; exact hv, fun j hj => by simp (disch := (first | assumption | exact xnl_i _ | exact xnl_r _ | exact xnl_n | exact Bool.toNat_lt _ | exact hb _ | exact hb2 _ | omega | exact Nat.le_of_ble_eq_true rfl | rfl | decide)) only [su_eq, su_ne]; exact w8 j hj, fun p hp => ?_⟩
  rw [su_ne (by omega)] at hp
  simp (disch := (first | assumption | exact xnl_i _ | exact xnl_r _ | exact xnl_n | exact Bool.toNat_lt _ | exact hb _ | exact hb2 _ | omega | exact Nat.le_of_ble_eq_true rfl | rfl | decide)) only [su_eq, su_ne]
  exact w9 p hp
theorem wfA_10 {q : Nat} (h : wfA σ N) (hc : c < 8) (hq : q < 4) (hv : v ≤ N) (hN : N ≤ 200000) : wfA (su σ (62 * c + (10 + q)) v) N := by
  obtain ⟨w1, w2, w3, w4, w5, w6, w7, w8, w9⟩ := h.2.2.1 c hc
  refine wfA_c h hc (by omega) (by omega) ⟨by simp (disch := (first | assumption | exact xnl_i _ | exact xnl_r _ | exact xnl_n | exact Bool.toNat_lt _ | exact hb _ | exact hb2 _ | omega | exact Nat.le_of_ble_eq_true rfl | rfl | decide)) only [su_eq, su_ne]; exact w1, by simp (disch := (first | assumption | exact xnl_i _ | exact xnl_r _ | exact xnl_n | exact Bool.toNat_lt _ | exact hb _ | exact hb2 _ | omega | exact Nat.le_of_ble_eq_true rfl | rfl | decide)) only [su_eq, su_ne]; exact w2, by simp (disch := (first | assumption | exact xnl_i _ | exact xnl_r _ | exact xnl_n | exact Bool.toNat_lt _ | exact hb _ | exact hb2 _ | omega | exact Nat.le_of_ble_eq_true rfl | rfl | decide)) only [su_eq, su_ne]; exact w3, by simp (disch := (first | assumption | exact xnl_i _ | exact xnl_r _ | exact xnl_n | exact Bool.toNat_lt _ | exact hb _ | exact hb2 _ | omega | exact Nat.le_of_ble_eq_true rfl | rfl | decide)) only [su_eq, su_ne]; exact w4, by simp (disch := (first | assumption | exact xnl_i _ | exact xnl_r _ | exact xnl_n | exact Bool.toNat_lt _ | exact hb _ | exact hb2 _ | omega | exact Nat.le_of_ble_eq_true rfl | rfl | decide)) only [su_eq, su_ne]; exact w5, fun j hj => by simp (disch := (first | assumption | exact xnl_i _ | exact xnl_r _ | exact xnl_n | exact Bool.toNat_lt _ | exact hb _ | exact hb2 _ | omega | exact Nat.le_of_ble_eq_true rfl | rfl | decide)) only [su_eq, su_ne]; exact w6 j hj, by simp (disch := (first | assumption | exact xnl_i _ | exact xnl_r _ | exact xnl_n | exact Bool.toNat_lt _ | exact hb _ | exact hb2 _ | omega | exact Nat.le_of_ble_eq_true rfl | rfl | decide)) only [su_eq, su_ne]; exact w7, fun j hj => ?_, fun p hp => ?_⟩
  · unfold su; split
    · exact hv
    · exact w8 j hj
  · rw [su_ne (by omega)] at hp
    simp (disch := (first | assumption | exact xnl_i _ | exact xnl_r _ | exact xnl_n | exact Bool.toNat_lt _ | exact hb _ | exact hb2 _ | omega | exact Nat.le_of_ble_eq_true rfl | rfl | decide)) only [su_eq, su_ne]
    exact w9 p hp
theorem wfA_m {q : Nat} (h : wfA σ N) (hc : c < 8) (hq : q < 16) (hv : v ≤ 1) : wfA (su σ (62 * c + (14 + 3 * q + 2)) v) N := by
  obtain ⟨w1, w2, w3, w4, w5, w6, w7, w8, w9⟩ := h.2.2.1 c hc
  refine wfA_c h hc (by omega) (by omega) ⟨by simp (disch := (first | assumption | exact xnl_i _ | exact xnl_r _ | exact xnl_n | exact Bool.toNat_lt _ | exact hb _ | exact hb2 _ | omega | exact Nat.le_of_ble_eq_true rfl | rfl | decide)) only [su_eq, su_ne]; exact w1, by simp (disch := (first | assumption | exact xnl_i _ | exact xnl_r _ | exact xnl_n | exact Bool.toNat_lt _ | exact hb _ | exact hb2 _ | omega | exact Nat.le_of_ble_eq_true rfl | rfl | decide)) only [su_eq, su_ne]; exact w2, by simp (disch := (first | assumption | exact xnl_i _ | exact xnl_r _ | exact xnl_n | exact Bool.toNat_lt _ | exact hb _ | exact hb2 _ | omega | exact Nat.le_of_ble_eq_true rfl | rfl | decide)) only [su_eq, su_ne]; exact w3, by simp (disch := (first | assumption | exact xnl_i _ | exact xnl_r _ | exact xnl_n | exact Bool.toNat_lt _ | exact hb _ | exact hb2 _ | omega | exact Nat.le_of_ble_eq_true rfl | rfl | decide)) only [su_eq, su_ne]; exact w4, by simp (disch := (first | assumption | exact xnl_i _ | exact xnl_r _ | exact xnl_n | exact Bool.toNat_lt _ | exact hb _ | exact hb2 _ | omega | exact Nat.le_of_ble_eq_true rfl | rfl | decide)) only [su_eq, su_ne]; exact w5, fun j hj => by simp (disch := (first | assumption | exact xnl_i _ | exact xnl_r _ | exact xnl_n | exact Bool.toNat_lt _ | exact hb _ | exact hb2 _ | omega | exact Nat.le_of_ble_eq_true rfl | rfl | decide)) only [su_eq, su_ne]; exact w6 j hj, by simp (disch := (first | assumption | exact xnl_i _ | exact xnl_r _ | exact xnl_n | exact Bool.toNat_lt _ | exact hb _ | exact hb2 _ | omega | exact Nat.le_of_ble_eq_true rfl | rfl | decide)) only [su_eq, su_ne]; exact w7, fun j hj => by simp (disch := (first | assumption | exact xnl_i _ | exact xnl_r _ | exact xnl_n | exact Bool.toNat_lt _ | exact hb _ | exact hb2 _ | omega | exact Nat.le_of_ble_eq_true rfl | rfl | decide)) only [su_eq, su_ne]; exact w8 j hj, fun p hp => ?_⟩
  rw [su_ne (by omega)] at hp
  rw [su_ne (by omega), su_ne (by omega)]
  refine ⟨(w9 p hp).1, ?_⟩
  unfold su; split
  · exact hv
  · exact (w9 p hp).2
theorem wfA_h {k : Nat} (h : wfA σ N) (hk : k < 4) (hv : v ≤ 8) : wfA (su σ (497 + k) v) N := by
  obtain ⟨h1, h2, h3, h4⟩ := h
  refine ⟨fun i => ?_, fun i hi => by rw [su_ne (by omega)]; exact h2 i hi, fun d hd => ?_, fun j hj => ?_⟩
  · unfold su; split
    · omega
    · exact h1 i
  · obtain ⟨w1, w2, w3, w4, w5, w6, w7, w8, w9⟩ := h3 d hd
    refine ⟨by simp (disch := (first | assumption | exact xnl_i _ | exact xnl_r _ | exact xnl_n | exact Bool.toNat_lt _ | exact hb _ | exact hb2 _ | omega | exact Nat.le_of_ble_eq_true rfl | rfl | decide)) only [su_eq, su_ne]; exact w1, by simp (disch := (first | assumption | exact xnl_i _ | exact xnl_r _ | exact xnl_n | exact Bool.toNat_lt _ | exact hb _ | exact hb2 _ | omega | exact Nat.le_of_ble_eq_true rfl | rfl | decide)) only [su_eq, su_ne]; exact w2, by simp (disch := (first | assumption | exact xnl_i _ | exact xnl_r _ | exact xnl_n | exact Bool.toNat_lt _ | exact hb _ | exact hb2 _ | omega | exact Nat.le_of_ble_eq_true rfl | rfl | decide)) only [su_eq, su_ne]; exact w3, by simp (disch := (first | assumption | exact xnl_i _ | exact xnl_r _ | exact xnl_n | exact Bool.toNat_lt _ | exact hb _ | exact hb2 _ | omega | exact Nat.le_of_ble_eq_true rfl | rfl | decide)) only [su_eq, su_ne]; exact w4, by simp (disch := (first | assumption | exact xnl_i _ | exact xnl_r _ | exact xnl_n | exact Bool.toNat_lt _ | exact hb _ | exact hb2 _ | omega | exact Nat.le_of_ble_eq_true rfl | rfl | decide)) only [su_eq, su_ne]; exact w5, fun j hj => by simp (disch := (first | assumption | exact xnl_i _ | exact xnl_r _ | exact xnl_n | exact Bool.toNat_lt _ | exact hb _ | exact hb2 _ | omega | exact Nat.le_of_ble_eq_true rfl | rfl | decide)) only [su_eq, su_ne]; exact w6 j hj, by simp (disch := (first | assumption | exact xnl_i _ | exact xnl_r _ | exact xnl_n | exact Bool.toNat_lt _ | exact hb _ | exact hb2 _ | omega | exact Nat.le_of_ble_eq_true rfl | rfl | decide)) only [su_eq, su_ne]; exact w7, fun j hj => by simp (disch := (first | assumption | exact xnl_i _ | exact xnl_r _ | exact xnl_n | exact Bool.toNat_lt _ | exact hb _ | exact hb2 _ | omega | exact Nat.le_of_ble_eq_true rfl | rfl | decide)) only [su_eq, su_ne]; exact w8 j hj, fun p hp => ?_⟩
    rw [su_ne (by omega)] at hp
    simp (disch := (first | assumption | exact xnl_i _ | exact xnl_r _ | exact xnl_n | exact Bool.toNat_lt _ | exact hb _ | exact hb2 _ | omega | exact Nat.le_of_ble_eq_true rfl | rfl | decide)) only [su_eq, su_ne]
    exact w9 p hp
  · unfold su; split
    · exact hv
    · exact h4 j hj
theorem wfA_496 (h : wfA σ N) (hv : v ≤ 200000) : wfA (su σ 496 v) N := by
  obtain ⟨h1, h2, h3, h4⟩ := h
  refine ⟨fun i => ?_, fun i hi => by rw [su_ne (by omega)]; exact h2 i hi, fun d hd => ?_, fun j hj => by rw [su_ne (by omega)]; exact h4 j hj⟩
  · unfold su; split
    · exact hv
    · exact h1 i
  · obtain ⟨w1, w2, w3, w4, w5, w6, w7, w8, w9⟩ := h3 d hd
    refine ⟨by simp (disch := (first | assumption | exact xnl_i _ | exact xnl_r _ | exact xnl_n | exact Bool.toNat_lt _ | exact hb _ | exact hb2 _ | omega | exact Nat.le_of_ble_eq_true rfl | rfl | decide)) only [su_eq, su_ne]; exact w1, by simp (disch := (first | assumption | exact xnl_i _ | exact xnl_r _ | exact xnl_n | exact Bool.toNat_lt _ | exact hb _ | exact hb2 _ | omega | exact Nat.le_of_ble_eq_true rfl | rfl | decide)) only [su_eq, su_ne]; exact w2, by simp (disch := (first | assumption | exact xnl_i _ | exact xnl_r _ | exact xnl_n | exact Bool.toNat_lt _ | exact hb _ | exact hb2 _ | omega | exact Nat.le_of_ble_eq_true rfl | rfl | decide)) only [su_eq, su_ne]; exact w3, by simp (disch := (first | assumption | exact xnl_i _ | exact xnl_r _ | exact xnl_n | exact Bool.toNat_lt _ | exact hb _ | exact hb2 _ | omega | exact Nat.le_of_ble_eq_true rfl | rfl | decide)) only [su_eq, su_ne]; exact w4, by simp (disch := (first | assumption | exact xnl_i _ | exact xnl_r _ | exact xnl_n | exact Bool.toNat_lt _ | exact hb _ | exact hb2 _ | omega | exact Nat.le_of_ble_eq_true rfl | rfl | decide)) only [su_eq, su_ne]; exact w5, fun j hj => by simp (disch := (first | assumption | exact xnl_i _ | exact xnl_r _ | exact xnl_n | exact Bool.toNat_lt _ | exact hb _ | exact hb2 _ | omega | exact Nat.le_of_ble_eq_true rfl | rfl | decide)) only [su_eq, su_ne]; exact w6 j hj, by simp (disch := (first | assumption | exact xnl_i _ | exact xnl_r _ | exact xnl_n | exact Bool.toNat_lt _ | exact hb _ | exact hb2 _ | omega | exact Nat.le_of_ble_eq_true rfl | rfl | decide)) only [su_eq, su_ne]; exact w7, fun j hj => by simp (disch := (first | assumption | exact xnl_i _ | exact xnl_r _ | exact xnl_n | exact Bool.toNat_lt _ | exact hb _ | exact hb2 _ | omega | exact Nat.le_of_ble_eq_true rfl | rfl | decide)) only [su_eq, su_ne]; exact w8 j hj, fun p hp => ?_⟩
    rw [su_ne (by omega)] at hp
    simp (disch := (first | assumption | exact xnl_i _ | exact xnl_r _ | exact xnl_n | exact Bool.toNat_lt _ | exact hb _ | exact hb2 _ | omega | exact Nat.le_of_ble_eq_true rfl | rfl | decide)) only [su_eq, su_ne]
    exact w9 p hp
theorem wfA_up (h : wfA σ N) {M : Nat} (hM : N ≤ M) : wfA σ M := ⟨h.1, h.2.1, fun c hc => by
  obtain ⟨w1, w2, w3, w4, w5, w6, w7, w8, w9⟩ := h.2.2.1 c hc
  exact ⟨w1, w2, w3, w4, w5, w6, w7, fun j hj => Nat.le_trans (w8 j hj) hM, w9⟩, h.2.2.2⟩
theorem wfA_acct {own : Nat} {r : Option Nat} (h : wfA σ N) (ho : own < 8) (hr : ∀ c, r = some c → c < 8) (hN : N < 200000) : wfA (pacct σ own r) (N + 1) := by
  have hu := wfA_up h (Nat.le_succ N)
  have b : ∀ c j, c < 8 → j < 4 → σ (62 * c + (10 + j)) + 1 ≤ N + 1 := fun c j hc hj => Nat.succ_le_succ ((h.2.2.1 c hc).2.2.2.2.2.2.2.1 j hj)
  cases r with
  | none => exact wfA_10 (q := 3) hu ho (by decide) (b own 3 ho (by decide)) hN
  | some c =>
    have hc := hr c rfl
    by_cases hco : c = own
    · subst hco
      rw [pacct_own]
      exact wfA_10 (q := 0) hu hc (by decide) (b c 0 hc (by decide)) hN
    · rw [pacct_oth hco]
      exact wfA_10 (q := 1) (wfA_10 (q := 2) hu ho (by decide) (b own 2 ho (by decide)) hN) hc (by decide) (b c 1 hc (by decide)) hN
theorem wfA_recv (h : wfA σ N) (hc : c < 8) (h4 : σ (62 * c + 4) < 4) (hv : v < 1000) : wfA (precv σ c v) N :=
  wfA_4 (wfA_5 h hc h4 hv) hc (by omega)
theorem wfA_take (h : wfA σ N) (hc : c < 8) : wfA (ptake σ c) N := by
  obtain ⟨w1, w2, w3, w4, w5, w6, w7, w8, w9⟩ := h.2.2.1 c hc
  have h1 := wfA_2 (v := (σ (62 * c + 2) + σ (62 * c + 5)) % 1000) h hc (Nat.mod_lt _ (by decide))
  have h2 := wfA_5 (q := 0) h1 hc (by decide) (w6 1 (by decide))
  have h3 := wfA_5 (q := 1) h2 hc (by decide) (w6 2 (by decide))
  have h4 := wfA_5 (q := 2) h3 hc (by decide) (w6 3 (by decide))
  have h5 := wfA_5 (q := 3) (v := 0) h4 hc (by decide) (by decide)
  exact wfA_4 h5 hc (by omega)
theorem wfA_runs (h : wfA σ N) (hc : c < 8) (hpl : σ (62 * c + 1) < σ (62 * c)) (hr : pcmd σ c (σ (62 * c + 1)) = 1 → ¬ σ (62 * parg σ c (σ (62 * c + 1)) + 4) = 4) : wfA (pruns σ c) N := by
  obtain ⟨w1, w2, w3, w4, w5, w6, w7, w8, w9⟩ := h.2.2.1 c hc
  have hok : pok (pcmd σ c (σ (62 * c + 1))) (parg σ c (σ (62 * c + 1))) := (w9 _ hpl).1
  have hp := wfA_1 (v := σ (62 * c + 1) + 1) h hc hpl
  unfold pruns
  generalize hk : pcmd σ c (σ (62 * c + 1)) = k at hok hr ⊢
  generalize hn : parg σ c (σ (62 * c + 1)) = n at hok hr ⊢
  unfold pok at hok
  split
  · unfold pback
    split
    · exact wfA_1 (wfA_m h hc (by omega) (by decide)) hc (by rw [su_ne (by omega)]; exact hpl)
    · exact wfA_1 (wfA_m h hc (by omega) (by decide)) hc (by rw [su_ne (by omega)]; omega)
  · split
    · exact wfA_2 hp hc (Nat.mod_lt _ (by decide))
    · split
      · rename_i h1
        have hr := hr h1
        have hn8 : n < 8 := by omega
        have := (h.2.2.1 n hn8).2.2.2.2.1
        exact wfA_recv hp hn8 (by rw [su_ne (by omega)]; omega) w3
      · split
        · exact wfA_take hp hc
        · split
          · exact wfA_h hp (by omega) (by omega)
          · split
            · refine wfA_h hp (by omega) ?_
              split
              · decide
              · exact h.2.2.2 n (by omega)
            · exact wfA_9 hp hc (by omega)
theorem wfA_wakes (h : wfA σ N) : wfA (pwakes σ) N := by
  have : ∀ n, n ≤ 8 → wfA (itN (fun c τ => su τ (62 * c + 9) (τ (62 * c + 9) - 1)) n σ) N := by
    intro n
    induction n with
    | zero => intro _; exact h
    | succ n ih =>
      intro hn
      have h1 := ih (by omega)
      rw [itN_s]
      exact wfA_9 h1 (by omega) (by have := (h1.2.2.1 n (by omega)).2.2.2.2.2.2.1; omega)
  exact this 8 (Nat.le_refl _)
/-- a state that is well, with no more slots passed than n -/
def gs (σ : Nat → Nat) (n : Nat) : Prop := wfA σ (σ 496) ∧ σ 496 ≤ n
theorem gs_wf {n : Nat} (h : gs σ n) : wf σ := wf_A h.1
theorem pslot_gs {n : Nat} (h : gs σ n) (hn : n < 200000) : gs (pslot σ) (n + 1) ∧ pslot σ 496 = σ 496 + 1 := by
  obtain ⟨h1, h2⟩ := h
  have e : pslot σ 496 = σ 496 + 1 := su_eq
  refine ⟨⟨?_, by omega⟩, e⟩
  rw [e]
  have hw := wfA_wakes h1
  have ho : σ 496 % 8 < 8 := Nat.mod_lt _ (by decide)
  unfold pslot
  refine wfA_496 ?_ (by omega)
  cases hr : pslotR σ with
  | none => exact wfA_acct hw ho (fun c hc => by cases hc) (by omega)
  | some c =>
    obtain ⟨hc, hp⟩ := prunner_1 ho hr
    obtain ⟨p1, p2, p3, p4, p5⟩ := pst_1 hp
    obtain ⟨w1, w2, w3, w4, w5, w6, w7, w8, w9⟩ := hw.2.2.1 c hc
    have hrs : ∀ d, some c = some d → d < 8 := fun d hd => by cases hd; exact hc
    have ha := wfA_acct hw ho hrs (by omega)
    have eo : ∀ i, (∀ c j, c < 8 → j < 4 → ¬ i = 62 * c + (10 + j)) → pacct (pwakes σ) (σ 496 % 8) (some c) i = pwakes σ i := fun i hi => pacct_o ho hrs hi
    generalize pwakes σ = τ at p1 p2 p3 p4 p5 w1 w2 w9 eo ha
    have e1 : pacct τ (σ 496 % 8) (some c) (62 * c + 1) = τ (62 * c + 1) := eo _ (fun _ _ _ _ => by omega)
    have e0 : pacct τ (σ 496 % 8) (some c) (62 * c) = τ (62 * c) := eo _ (fun _ _ _ _ => by omega)
    have hp16 : τ (62 * c + 1) < 16 := by omega
    have ec : pcmd (pacct τ (σ 496 % 8) (some c)) c (τ (62 * c + 1)) = pcmd τ c (τ (62 * c + 1)) := eo (62 * c + (14 + 3 * τ (62 * c + 1))) (fun d _ _ _ => by rcases Nat.lt_trichotomy d c with h | h | h <;> omega)
    have ea : parg (pacct τ (σ 496 % 8) (some c)) c (τ (62 * c + 1)) = parg τ c (τ (62 * c + 1)) := eo (62 * c + (14 + 3 * τ (62 * c + 1) + 1)) (fun d _ _ _ => by rcases Nat.lt_trichotomy d c with h | h | h <;> omega)
    refine wfA_runs ha hc (by rw [e1, e0]; exact p1) ?_
    rw [e1, ec, ea, eo _ (fun _ _ _ _ => by omega)]
    exact p3
theorem pslots_gs {n : Nat} (h : gs σ n) : ∀ k, n + k ≤ 200000 → gs (pslots k σ) (n + k) ∧ pslots k σ 496 = σ 496 + k := by
  intro k
  induction k with
  | zero => intro _; exact ⟨h, rfl⟩
  | succ k ih =>
    intro hk
    obtain ⟨h1, h2⟩ := ih (by omega)
    obtain ⟨h3, h4⟩ := pslot_gs h1 (by omega)
    exact ⟨h3, h4.trans (by rw [h2]; omega)⟩
end WFA

