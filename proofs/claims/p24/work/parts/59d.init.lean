/-! ===== the class constructed: all of it ===== -/
section INL
variable {E : Nat × Nat × Nat} {S : xSh} {V V' W : xV} {Q : Option Value → xSh → xV → Prop} {t b x : Nat}
theorem i_X4 (hk : xkd S x = 5) (hT : S.2.1 = x + 1) : ∃ S' V', tsShape S' x ∧ S'.2.1 = x + 449 ∧ S'.2.2 = S.2.2 + 4464 ∧ (∀ a, a < x ∨ x + 449 ≤ a → S'.1 a = S.1 a ∧ V' a = V a) ∧ (∀ a, x + 1 ≤ a → a < x + 45 → ¬ a = x + 3 → V' a = fun _ => 0) ∧ (∀ k, k < 4 → V' (x + 3) k = -6) ∧ V' (x + 89) = (fun _ => 0) ∧ V' (x + 356) = (fun _ => 0) ∧ V' (x + 357) = (fun _ => 0) ∧ ∀ Q : Option Value → xSh → xV → Prop, xC E mX4_init [.ref x] S V Q ↔ Q none S' V' := by
  obtain ⟨S1, V1, ⟨a1, a2, a3, a4⟩, ⟨a5, a6, a7, a8⟩, a9, a10, a11, a12, a13, a14, a15⟩ := i_X4a (E := E) (V := V) hk hT
  obtain ⟨S2, V2, ⟨b1, b2, b3, b4, b5⟩, ⟨b6, b7, b8, b9, b10⟩, b11, b12, b13, b14, b15, b16⟩ := i_X4b (E := E) (V := V1) a5 a9
  obtain ⟨S3, V3, c1, c2, c3, c4, c5, c6, c7⟩ := i_X4c (E := E) (V := V2) b6 b8 b1 b2 b11
  have lo : ∀ a, ¬ a = x → a < x + 355 → S3.1 a = S1.1 a := fun a h1 h2 => ((c6 a (by omega)).1 (by omega)).trans ((b13 a (by omega)).1 h1)
  have mid : ∀ a, a < x + 361 → ¬ a = x + 355 → S3.1 a = S2.1 a := fun a h1 h2 => (c6 a (by omega)).1 h2
  have lov : ∀ a, a < x + 355 → V3 a = V1 a := fun a h2 => ((c6 a (by omega)).2).trans (b13 a (by omega)).2
  have ex := kd_o (mid x (by omega) (by omega))
  have e89 := kd_o (lo (x + 89) (by omega) (by omega))
  have e90 := kd_o (lo (x + 90) (by omega) (by omega))
  have e356 := kd_o (mid (x + 356) (by omega) (by omega))
  have e357 := kd_o (mid (x + 357) (by omega) (by omega))
  have e358 := kd_o (mid (x + 358) (by omega) (by omega))
  have e359 := kd_o (mid (x + 359) (by omega) (by omega))
  have e360 := kd_o (mid (x + 360) (by omega) (by omega))
  obtain ⟨f1, f2, f3, f4, f5, f6, f7, f8, f9, f10⟩ := b5
  refine ⟨S3, V3, ⟨by rw [ex.1]; exact b6, by rw [ex.2.2, b7 0 (by decide)]; exact a6, by rw [ex.2.2, b7 1 (by decide)]; exact a7, by rw [ex.2.2, b7 2 (by decide)]; exact a8, by rw [ex.2.2]; exact b8, by rw [ex.2.2]; exact b9, by rw [ex.2.2]; exact b10, kShape_o a1 (fun a h1 h2 => lo a (by omega) (by omega)), kShape_o a2 (fun a h1 h2 => lo a (by omega) (by omega)), by rw [e89.1]; exact a3.1, by rw [e89.2.2]; exact a3.2.1, by rw [e90.1]; exact a3.2.2.1, by rw [e90.2.1]; exact a3.2.2.2, fun i hi => ⟨by rw [e90.2.2]; exact (a4 i hi).1, kShape_o (a4 i hi).2 (fun a h1 h2 => lo a (by omega) (by omega))⟩, c2, c3, c1, by rw [e356.1]; exact b3, by rw [e356.2.1]; exact b4, by rw [e357.1]; exact f1, by rw [e357.2.2]; exact f2, by rw [e357.2.2]; exact f3, by rw [e357.2.2]; exact f4, by rw [e358.1]; exact f5, by rw [e358.2.1]; exact f6, by rw [e359.1]; exact f7, by rw [e359.2.1]; exact f8, by rw [e360.1]; exact f9, by rw [e360.2.1]; exact f10⟩, c4, by rw [c5, b12, a10], fun a ha => ⟨?_, ?_⟩, fun a h1 h2 h3 => ?_, fun k hk2 => ?_, ?_, ?_, ?_, fun Q => ?_⟩
  · rw [(c6 a (by omega)).1 (by omega), (b13 a (by omega)).1 (by omega), (a11 a (by omega)).1]
  · rw [(c6 a (by omega)).2, (b13 a (by omega)).2, (a11 a (by omega)).2]
  · rw [lov a (by omega)]; exact a12 a h1 h2 h3
  · rw [lov _ (by omega)]; exact a13 k hk2
  · rw [lov _ (by omega)]; exact a14
  · rw [(c6 (x + 356) (by omega)).2]; exact b14
  · rw [(c6 (x + 357) (by omega)).2]; exact b15
  · rw [a15, b16, c7]
def g0 : pG := ((fun _ => 0), (0, fun _ _ => 0), ((fun _ _ => 0), fun _ => false), (0, fun _ => 0))
theorem gG_0 : gG g0 := by
  refine ⟨⟨⟨fun _ => Nat.zero_le _, fun _ _ => rfl, fun c hc => ⟨Nat.zero_le _, Nat.le_refl _, Nat.zero_lt_succ _, Nat.zero_le _, Nat.zero_le _, fun _ _ => Nat.zero_lt_succ _, Nat.zero_le _, fun _ _ => Nat.zero_le _, fun p hp => absurd hp (Nat.not_lt_zero p)⟩, fun _ _ => Nat.zero_le _⟩, Nat.zero_le _⟩, Nat.zero_le _, fun i hi => absurd hi (Nat.not_lt_zero i), fun k _ h => Bool.noConfusion (show false = true from h), Nat.zero_le _, fun j hj => absurd hj (Nat.not_lt_zero j)⟩
theorem cRep_0 (hT : tsShape S x) (h1 : ∀ a, x + 1 ≤ a → a < x + 45 → ¬ a = x + 3 → V a = fun _ => 0) (h2 : ∀ k, k < 4 → V (x + 3) k = -6) (h3 : V (x + 89) = fun _ => 0) (h4 : V (x + 356) = fun _ => 0) (h5 : V (x + 357) = fun _ => 0) : cRep S V x g0 := by
  have z : ∀ a i, x + 1 ≤ a → a < x + 45 → ¬ a = x + 3 → V a i = nI 0 := fun a i q1 q2 q3 => by rw [h1 a q1 q2 q3]; rfl
  have hmk : ∀ c, kmk (fun _ => 0) c = 0 := fun c => bm_0.mpr (fun i _ => by simp)
  have hps : ∀ w n, psum (fun _ => 0) w n = 0 := fun w n => by
    induction n with
    | zero => rfl
    | succ n ih => unfold psum; rw [ih]
  refine ⟨hT, ⟨⟨fun c hc => ⟨z _ _ (by omega) (by omega) (by omega), ?_, z _ _ (by omega) (by omega) (by omega), z _ _ (by omega) (by omega) (by omega), z _ _ (by omega) (by omega) (by omega), z _ _ (by omega) (by omega) (by omega), z _ _ (by omega) (by omega) (by omega), fun p hp => absurd hp (Nat.not_lt_zero p), fun p hp => absurd hp (Nat.not_lt_zero p), fun p hp => absurd hp (Nat.not_lt_zero p), fun j hj => z _ _ (by omega) (by omega) (by omega)⟩, fun k hk => ?_, ?_, ?_⟩, z _ _ (by omega) (by omega) (by omega)⟩, ⟨0, by decide, by rw [h3]; rfl, by rw [h3]; rfl, fun i hi => absurd hi (Nat.not_lt_zero i)⟩, fun k hk => ⟨by rw [h4]; rfl, fun h => Bool.noConfusion (show false = true from h)⟩, by rw [h5]; rfl, fun j hj => absurd hj (Nat.not_lt_zero j)⟩
  · show _ = nI (kmk (fun _ => 0) c)
    rw [hmk]; exact z _ _ (by omega) (by omega) (by omega)
  · exact h2 k hk
  · show _ = nI (psum (fun _ => 0) 13 8)
    rw [hps]; exact z _ _ (by omega) (by omega) (by omega)
  · show _ = nI (psum (fun _ => 0) 12 8)
    rw [hps]; exact z _ _ (by omega) (by omega) (by omega)
end INL

