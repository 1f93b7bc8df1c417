/-! ===== the class: all that it holds; its history ===== -/
def tsShape (S : xSh) (x : Nat) : Prop :=
  xkd S x = 5 ∧ xrf S x 0 = some (x + 1) ∧ xrf S x 1 = some (x + 45) ∧ xrf S x 2 = some (x + 89) ∧ xrf S x 3 = some (x + 355) ∧ xrf S x 4 = some (x + 356) ∧ xrf S x 5 = some (x + 357) ∧ kShape S (x + 1) ∧ kShape S (x + 45) ∧
  xkd S (x + 89) = 2 ∧ xrf S (x + 89) 0 = some (x + 90) ∧ xkd S (x + 90) = 11 ∧ xln S (x + 90) = 6 ∧ (∀ i, i < 6 → xrf S (x + 90) i = some (x + (91 + 44 * i)) ∧ kShape S (x + (91 + 44 * i))) ∧
  xkd S (x + 355) = 11 ∧ xln S (x + 355) = 2 ∧ (∀ i, i < 2 → xrf S (x + 355) i = some (x + (361 + 44 * i)) ∧ kShape S (x + (361 + 44 * i))) ∧ xkd S (x + 356) = 9 ∧ xln S (x + 356) = 2 ∧
  xkd S (x + 357) = 4 ∧ xrf S (x + 357) 0 = some (x + 358) ∧ xrf S (x + 357) 2 = some (x + 359) ∧ xrf S (x + 357) 3 = some (x + 360) ∧ xkd S (x + 358) = 8 ∧ xln S (x + 358) = 72 ∧ xkd S (x + 359) = 7 ∧ xln S (x + 359) = 16 ∧ xkd S (x + 360) = 7 ∧ xln S (x + 360) = 16
def hRep (V : xV) (x : Nat) (u : Nat) (U : Nat → Nat → Nat) : Prop := ∃ o, o < 6 ∧ V (x + 89) 1 = nI o ∧ V (x + 89) 2 = nI u ∧ ∀ i, i < u → kM V (x + (91 + 44 * ((o + i) % 6))) (U i)
def sRep (V : xV) (x : Nat) (g : pG) : Prop := ∀ k, k < 2 → V (x + 356) k = nI (gis g k).toNat ∧ (gis g k = true → kM V (x + (361 + 44 * k)) (gsv g k))
def dRep (V : xV) (x : Nat) (g : pG) : Prop := V (x + 357) 1 = nI (gln g) ∧ ∀ j, j < gln g → V (x + 358) j = nI (gpd g j)
def cRep (S : xSh) (V : xV) (x : Nat) (g : pG) : Prop := tsShape S x ∧ kM V (x + 1) (gσ g) ∧ hRep V x (gu g) (gU g) ∧ sRep V x g ∧ dRep V x g
def tOut (V V' : xV) (x : Nat) : Prop := ∀ a, a < x ∨ x + 448 < a → V' a = V a
section KAL
variable {E : Nat × Nat × Nat} {S : xSh} {V V' W : xV} {Q : Option Value → xSh → xV → Prop} {x mb : Nat} {g : pG} {σ : Nat → Nat}
theorem tOut_r : tOut V V x := fun _ _ => rfl
theorem tOut_t (h1 : tOut V V' x) (h2 : tOut V' W x) : tOut V W x := fun a ha => (h2 a ha).trans (h1 a ha)
theorem tOut_k (h : kOut V V' mb) (h1 : x ≤ mb) (h2 : mb + 43 ≤ x + 448) : tOut V V' x := fun a ha => h a (by omega)
theorem tOut_up {a j : Nat} {v : Int32} (h : x ≤ a ∧ a ≤ x + 448) : tOut V (xup V a j v) x := fun d hd => xup_rn (by omega)
theorem kM_e (h : kM V mb σ) (ho : ∀ a, mb ≤ a → a ≤ mb + 43 → V' a = V a) : kM V' mb σ := ⟨kN_o h.1 (fun a h1 h2 _ => ho a h1 h2), by rw [ho mb (by omega) (by omega)]; exact h.2⟩
theorem hRep_o {u : Nat} {U : Nat → Nat → Nat} (h : hRep V x u U) (ho : ∀ a, x + 89 ≤ a → a ≤ x + 354 → V' a = V a) : hRep V' x u U := by
  obtain ⟨o, h0, h1, h2, h3⟩ := h
  refine ⟨o, h0, by rw [ho _ (by omega) (by omega)]; exact h1, by rw [ho _ (by omega) (by omega)]; exact h2, fun i hi => kM_e (h3 i hi) (fun a ha hb => ho a (by omega) (by have := Nat.mod_lt (o + i) (show 0 < 6 by decide); omega))⟩
theorem sRep_o (h : sRep V x g) (ho : ∀ a, x + 356 ≤ a → a ≤ x + 448 → ¬ (x + 357 ≤ a ∧ a ≤ x + 360) → V' a = V a) : sRep V' x g := fun k hk => by
  obtain ⟨h1, h2⟩ := h k hk
  exact ⟨by rw [ho _ (by omega) (by omega) (by omega)]; exact h1, fun hs => kM_e (h2 hs) (fun a ha hb => ho a (by omega) (by omega) (by omega))⟩
theorem dRep_o (h : dRep V x g) (ho : ∀ a, x + 357 ≤ a → a ≤ x + 358 → V' a = V a) : dRep V' x g := ⟨by rw [ho _ (by omega) (by omega)]; exact h.1, fun j hj => by rw [ho _ (by omega) (by omega)]; exact h.2 j hj⟩
/-- the machine that is now changes -/
theorem cRep_now (h : cRep S V x g) (ho : kOut V V' (x + 1)) (hk : kM V' (x + 1) σ) : cRep S V' x (gset g σ) := by
  obtain ⟨h1, h2, h3, h4, h5⟩ := h
  exact ⟨h1, hk, hRep_o h3 (fun a _ _ => ho a (by omega)), sRep_o h4 (fun a _ _ _ => ho a (by omega)), dRep_o h5 (fun a _ _ => ho a (by omega))⟩
/-- or the one to try in -/
theorem cRep_try (h : cRep S V x g) (ho : kOut V V' (x + 45)) : cRep S V' x g := by
  obtain ⟨h1, h2, h3, h4, h5⟩ := h
  exact ⟨h1, kM_e h2 (fun a _ _ => ho a (by omega)), hRep_o h3 (fun a _ _ => ho a (by omega)), sRep_o h4 (fun a _ _ _ => ho a (by omega)), dRep_o h5 (fun a _ _ => ho a (by omega))⟩
/-- or what is read from the text -/
theorem cRep_pad (h : cRep S V x g) (ho : ∀ a, a < x + 357 ∨ x + 360 < a → V' a = V a) (hd : dRep V' x g) : cRep S V' x g := by
  obtain ⟨h1, h2, h3, h4, h5⟩ := h
  exact ⟨h1, kM_e h2 (fun a _ _ => ho a (by omega)), hRep_o h3 (fun a _ _ => ho a (by omega)), sRep_o h4 (fun a _ _ _ => ho a (by omega)), hd⟩
theorem cRep_o (h : cRep S V x g) (ho : ∀ a, x ≤ a → a ≤ x + 448 → V' a = V a) : cRep S V' x g := by
  obtain ⟨h1, h2, h3, h4, h5⟩ := h
  exact ⟨h1, kM_e h2 (fun a _ _ => ho a (by omega) (by omega)), hRep_o h3 (fun a _ _ => ho a (by omega) (by omega)), sRep_o h4 (fun a _ _ _ => ho a (by omega) (by omega)), dRep_o h5 (fun a _ _ => ho a (by omega) (by omega))⟩
theorem k_record (hR : cRep S V x g) (hG : gG g) : ∃ V', cRep S V' x (grec g) ∧ (∀ a, a < x + 89 ∨ x + 354 < a → V' a = V a) ∧ ∀ Q : Option Value → xSh → xV → Prop, xC E mX1_record [.ref (x + 89), .ref (x + 1)] S V Q ↔ Q none S V' := by
  obtain ⟨hT, hN, hH, hs, hd⟩ := hR
  have hT0 := hT
  obtain ⟨tk0, tr0, tr1, tr2, tr3, tr4, tr5, tnow, ttry, hk0, hr0, hk1, hn1, hms, sk0, sn0, sms, ik0, in0, pk0, pr0, pr2, pr3, qk1, qn1, qk2, qn2, qk3, qn3⟩ := hT
  obtain ⟨o, o6, v1, v2, v3⟩ := hH
  have hu := hG.2.1
  have hub : gu g < 2147483648 := by omega
  have hm6 : (o + gu g) % 6 < 6 := Nat.mod_lt _ (by decide)
  have hon : o < 2147483648 := by omega
  obtain ⟨hrm, hsm⟩ := hms _ hm6
  have hsm0 := hsm.1
  have tnow0 := tnow.1
  obtain ⟨W, w1, w2, w3⟩ := k_copyM (E := E) hsm tnow hN hG.1 (by omega)
  have hw89 : W (x + 89) = V (x + 89) := w2 _ (by omega)
  have wo : ∀ a, a < x + 89 ∨ x + 354 < a → W a = V a := fun a ha => w2 a (by omega)
  have other : ∀ i, i < gu g → ¬ (o + i) % 6 = (o + gu g) % 6 → kM W (x + (91 + 44 * ((o + i) % 6))) (gU g i) := fun i hi hne => kM_e (v3 i hi) (fun a h1 h2 => w2 a (by have := Nat.mod_lt (o + i) (show 0 < 6 by decide); omega))
  have v1W : W (x + 89) 1 = nI o := by rw [hw89]; exact v1
  have v2W : W (x + 89) 2 = nI (gu g) := by rw [hw89]; exact v2
  have fin : ∀ (W' : xV) u' U' o', (∀ a, ¬ a = x + 89 → W' a = W a) → grec g = (gσ g, (u', U'), g.2.2) → o' < 6 → W' (x + 89) 1 = nI o' → W' (x + 89) 2 = nI u' → (∀ i, i < u' → kM W (x + (91 + 44 * ((o' + i) % 6))) (U' i)) → cRep S W' x (grec g) ∧ ∀ a, a < x + 89 ∨ x + 354 < a → W' a = V a := by
    intro W' u' U' o' hW' hrec ho' h1 h2 h3
    rw [hrec]
    have wv : ∀ a, a < x + 89 ∨ x + 354 < a → W' a = V a := fun a ha => by rw [hW' a (by omega)]; exact wo a ha
    exact ⟨⟨hT0, kM_e hN (fun a _ _ => wv a (by omega)), ⟨o', ho', h1, h2, fun i hi => kM_e (h3 i hi) (fun a _ _ => hW' a (by omega))⟩, sRep_o hs (fun a _ _ _ => wv a (by omega)), dRep_o hd (fun a _ _ => wv a (by omega))⟩, wv⟩
  by_cases h6 : gu g = 6
  · have hom : (o + gu g) % 6 = o := by omega
    obtain ⟨f1, f2⟩ := fin (xup W (x + 89) 1 (nI ((o + 1) % 6))) 6 (fun i => if i = 5 then gσ g else gU g (i + 1)) ((o + 1) % 6) (fun a ha => xup_rn ha) (by unfold grec; rw [if_pos h6]; rfl) (Nat.mod_lt _ (by decide)) xup_eq (by rw [xup_ne (by omega), v2W, h6]) (fun i hi => by
      by_cases h5 : i = 5
      · subst h5
        rw [show ((o + 1) % 6 + 5) % 6 = (o + gu g) % 6 by omega]
        exact w1
      · have e : ((o + 1) % 6 + i) % 6 = (o + (i + 1)) % 6 := by omega
        rw [e, if_neg h5]
        exact other (i + 1) (by omega) (by omega))
    refine ⟨_, f1, f2, fun Q => ?_⟩
    rw [hom] at hrm w3 hsm0
    show xX E mX1_record 0 [some (.ref (x + 89)), some (.ref (x + 1))] [] S V Q ↔ _
    have h66 : ¬ gu g < 6 := by omega
    have h6' : 6 ≤ gu g := by omega
    simp (disch := (first | assumption | exact xnl_i _ | exact xnl_r _ | exact xnl_n | exact Bool.toNat_lt _ | exact hb _ | exact hb2 _ | omega | exact Nat.le_of_ble_eq_true rfl | rfl | decide)) only [pX1_record_0, pX1_record_1, pX1_record_4, pX1_record_5, pX1_record_8, pX1_record_9, pX1_record_12, pX1_record_13, pX1_record_15i, pX1_record_15, pX1_record_16, pX1_record_17, pX1_record_18, pX1_record_21, pX1_record_22, pX1_record_25, pX1_record_27, pX1_record_30, pX1_record_31, pX1_record_31i, pX1_record_32, pX1_record_35, pX1_record_36, pX1_record_37, pX1_record_40, pX1_record_43, pX1_record_44, pX1_record_45, pX1_record_48, pX1_record_49, pX1_record_50, pX1_record_52i, pX1_record_52, pX1_record_53, pX1_record_56, nI_add, pk_mul, xn_sub, xn_and, xn_or, xn_xor, xn_shl, xn_shr, xn_lt, xn_le, xn_eq, xrf_some, xup_eq, xup_ne, xrow_eq, xrow_ne, Option.toList_some, Option.toList_none, List.singleton_append, List.nil_append, List.cons_append, xnl_n, xnl_i, xnl_r, Nat.zero_add, Nat.add_zero, ↓reduceIte, Nat.reduceEqDiff, Nat.reduceLeDiff, Nat.reduceAdd, Nat.reduceMul, Nat.reduceLT, Nat.one_ne_zero, eq_self, not_true_eq_false, not_false_eq_true, and_self, hk0, hr0, v1, v2, xn_rem, hom, hrm, w3, v1W, v2W, h6']
  · have h6' : ¬ 6 ≤ gu g := by omega
    obtain ⟨f1, f2⟩ := fin (xup W (x + 89) 2 (nI (gu g + 1))) (gu g + 1) (fun i => if i = gu g then gσ g else gU g i) o (fun a ha => xup_rn ha) (by unfold grec; rw [if_neg h6]; rfl) o6 (by rw [xup_ne (by omega)]; exact v1W) xup_eq (fun i hi => by
      by_cases h5 : i = gu g
      · subst h5
        rw [if_pos rfl]
        exact w1
      · rw [if_neg h5]
        exact other i (by omega) (by omega))
    refine ⟨_, f1, f2, fun Q => ?_⟩
    show xX E mX1_record 0 [some (.ref (x + 89)), some (.ref (x + 1))] [] S V Q ↔ _
    simp (disch := (first | assumption | exact xnl_i _ | exact xnl_r _ | exact xnl_n | exact Bool.toNat_lt _ | exact hb _ | exact hb2 _ | omega | exact Nat.le_of_ble_eq_true rfl | rfl | decide)) only [pX1_record_0, pX1_record_1, pX1_record_4, pX1_record_5, pX1_record_8, pX1_record_9, pX1_record_12, pX1_record_13, pX1_record_15i, pX1_record_15, pX1_record_16, pX1_record_17, pX1_record_18, pX1_record_21, pX1_record_22, pX1_record_25, pX1_record_27, pX1_record_30, pX1_record_31, pX1_record_31i, pX1_record_32, pX1_record_35, pX1_record_36, pX1_record_37, pX1_record_40, pX1_record_43, pX1_record_44, pX1_record_45, pX1_record_48, pX1_record_49, pX1_record_50, pX1_record_52i, pX1_record_52, pX1_record_53, pX1_record_56, nI_add, pk_mul, xn_sub, xn_and, xn_or, xn_xor, xn_shl, xn_shr, xn_lt, xn_le, xn_eq, xrf_some, xup_eq, xup_ne, xrow_eq, xrow_ne, Option.toList_some, Option.toList_none, List.singleton_append, List.nil_append, List.cons_append, xnl_n, xnl_i, xnl_r, Nat.zero_add, Nat.add_zero, ↓reduceIte, Nat.reduceEqDiff, Nat.reduceLeDiff, Nat.reduceAdd, Nat.reduceMul, Nat.reduceLT, Nat.one_ne_zero, eq_self, not_true_eq_false, not_false_eq_true, and_self, hk0, hr0, v1, v2, xn_rem, hrm, w3, v1W, v2W, h6']
theorem k_takeBack (hR : cRep S V x g) (hG : gG g) (h0 : 0 < gu g) : ∃ V', cRep S V' x (gundo g) ∧ tOut V V' x ∧ ∀ Q : Option Value → xSh → xV → Prop, xC E mX1_takeBack [.ref (x + 89), .ref (x + 1)] S V Q ↔ Q none S V' := by
  obtain ⟨hT, hN, hH, hs, hd⟩ := hR
  have hT0 := hT
  obtain ⟨tk0, tr0, tr1, tr2, tr3, tr4, tr5, tnow, ttry, hk0, hr0, hk1, hn1, hms, sk0, sn0, sms, ik0, in0, pk0, pr0, pr2, pr3, qk1, qn1, qk2, qn2, qk3, qn3⟩ := hT
  obtain ⟨o, o6, v1, v2, v3⟩ := hH
  have hu := hG.2.1
  have hub : gu g < 2147483648 := by omega
  have h0' : ¬ gu g ≤ 0 := by omega
  have hm6 : (o + (gu g - 1)) % 6 < 6 := Nat.mod_lt _ (by decide)
  obtain ⟨hrm, hsm⟩ := hms _ hm6
  have hsm0 := hsm.1
  have tnow0 := tnow.1
  obtain ⟨W, hW⟩ : ∃ W, W = xup V (x + 89) 2 (nI (gu g - 1)) := ⟨_, rfl⟩
  have ho : ∀ a, ¬ a = x + 89 → W a = V a := fun a ha => by rw [hW]; exact xup_rn ha
  have v1W : W (x + 89) 1 = nI o := by rw [hW, xup_ne (by omega)]; exact v1
  have v2W : W (x + 89) 2 = nI (gu g - 1) := by rw [hW, xup_eq]
  have hsrc : kM W (x + (91 + 44 * ((o + (gu g - 1)) % 6))) (gU g (gu g - 1)) := kM_e (v3 _ (by omega)) (fun a _ _ => ho a (by omega))
  obtain ⟨W', w1, w2, w3⟩ := k_copyM (E := E) tnow hsm hsrc (hG.2.2.1 _ (by omega)) (by omega)
  have wv : ∀ a, x + 45 ≤ a → ¬ a = x + 89 → W' a = V a := fun a ha hb => by rw [w2 a (by omega)]; exact ho a hb
  have h89 : W' (x + 89) = W (x + 89) := w2 _ (by omega)
  refine ⟨W', ⟨hT0, w1, ⟨o, o6, by rw [h89]; exact v1W, by rw [h89]; exact v2W, fun i hi => ?_⟩, sRep_o hs (fun a _ _ _ => wv a (by omega) (by omega)), dRep_o hd (fun a _ _ => wv a (by omega) (by omega))⟩, fun a ha => by rw [w2 a (by omega)]; exact ho a (by omega), fun Q => ?_⟩
  · have hi : i < gu g - 1 := hi
    exact kM_e (v3 i (by omega)) (fun a _ _ => wv a (by omega) (by omega))
  · show xX E mX1_takeBack 0 [some (.ref (x + 89)), some (.ref (x + 1))] [] S V Q ↔ _
    simp (disch := (first | assumption | exact xnl_i _ | exact xnl_r _ | exact xnl_n | exact Bool.toNat_lt _ | exact hb _ | exact hb2 _ | omega | exact Nat.le_of_ble_eq_true rfl | rfl | decide)) only [pX1_takeBack_0, pX1_takeBack_1, pX1_takeBack_4, pX1_takeBack_7, pX1_takeBack_8, pX1_takeBack_8i, pX1_takeBack_9, pX1_takeBack_12, pX1_takeBack_13, pX1_takeBack_14, nI_add, pk_mul, xn_sub, xn_and, xn_or, xn_xor, xn_shl, xn_shr, xn_lt, xn_le, xn_eq, xrf_some, xup_eq, xup_ne, xrow_eq, xrow_ne, Option.toList_some, Option.toList_none, List.singleton_append, List.nil_append, List.cons_append, xnl_n, xnl_i, xnl_r, Nat.zero_add, Nat.add_zero, ↓reduceIte, Nat.reduceEqDiff, Nat.reduceLeDiff, Nat.reduceAdd, Nat.reduceMul, Nat.reduceLT, Nat.one_ne_zero, eq_self, not_true_eq_false, not_false_eq_true, and_self, hk0, hr0, v2, h0']
    rw [← hW]
    simp (disch := (first | assumption | exact xnl_i _ | exact xnl_r _ | exact xnl_n | exact Bool.toNat_lt _ | exact hb _ | exact hb2 _ | omega | exact Nat.le_of_ble_eq_true rfl | rfl | decide)) only [pX1_takeBack_17, pX1_takeBack_18, pX1_takeBack_19, pX1_takeBack_22, pX1_takeBack_23, pX1_takeBack_26, pX1_takeBack_27, pX1_takeBack_30, pX1_takeBack_31, pX1_takeBack_33i, pX1_takeBack_33, pX1_takeBack_34, pX1_takeBack_35, pX1_takeBack_38, nI_add, pk_mul, xn_sub, xn_and, xn_or, xn_xor, xn_shl, xn_shr, xn_lt, xn_le, xn_eq, xrf_some, xup_eq, xup_ne, xrow_eq, xrow_ne, Option.toList_some, Option.toList_none, List.singleton_append, List.nil_append, List.cons_append, xnl_n, xnl_i, xnl_r, Nat.zero_add, Nat.add_zero, ↓reduceIte, Nat.reduceEqDiff, Nat.reduceLeDiff, Nat.reduceAdd, Nat.reduceMul, Nat.reduceLT, Nat.one_ne_zero, eq_self, not_true_eq_false, not_false_eq_true, and_self, hk0, hr0, v1W, v2W, xn_rem, hrm, w3]
end KAL

