/-! ===== the class: a whole text read; put ===== -/
def qcodes (W : xV) (x m : Nat) (f : Nat → Nat × Nat) : Prop := ∀ i, i < m → W (x + 359) i = nI (f i).1 ∧ W (x + 360) i = nI (f i).2
section KFT
variable {E : Nat × Nat × Nat} {S : xSh} {V V' W : xV} {Q : Option Value → xSh → xV → Prop} {x a : Nat} {g : pG} {σ : Nat → Nat}
theorem k_findFault (hT : tsShape S x) (hd : dRep V x g) (hO : oRep E S V x) (hE : eRep E S V x) (hG : gG g) (hQ : ∀ W', qF V W' x → (∀ {p : Option Nat × Nat × (Nat → Nat × Nat)}, p = pparse g → p.1 = none → W' (x + 357) 4 = nI (pch g 0 - 48) ∧ W' (x + 357) 5 = nI p.2.1 ∧ p.2.1 ≤ 16 ∧ qcodes W' x p.2.1 p.2.2) → Q (some (.int (rv (pparse g).1))) S W') : xC E mX3_findFault [.ref (x + 357)] S V Q := by
  have h72 := hG.2.2.2.2.1
  have hlen : ∀ W, qF V W x → W (x + 357) 1 = nI (gln g) := fun W hF => hF.2.trans hd.1
  have hT0 := hT
  obtain ⟨tk0, tr0, tr1, tr2, tr3, tr4, tr5, tnow, ttry, hk0, hr0, hk1, hn1, hms, sk0, sn0, sms, ik0, in0, pk0, pr0, pr2, pr3, qk1, qn1, qk2, qn2, qk3, qn3⟩ := hT
  -- the end
  have fin : ∀ W a l1, W (x + 357) 6 = nI a → a < 1000 → qF V W x → (xX E mX3_findFault 135 [some (.ref (x + 357)), l1] [] S W Q ↔ if a < gln g then Q (some (.int (nI a))) S W else Q (some (.int (-6))) S W) := by
    intro W a l1 ha hs hF
    have hl := hlen W hF
    by_cases h : a < gln g
    · have h' : ¬ gln g ≤ a := by omega
      rw [if_pos h]
      simp (disch := (first | assumption | exact xnl_i _ | exact xnl_r _ | exact xnl_n | exact Bool.toNat_lt _ | exact hb _ | exact hb2 _ | omega | exact Nat.le_of_ble_eq_true rfl | rfl | decide)) only [pX3_findFault_135, pX3_findFault_136, pX3_findFault_139, pX3_findFault_140, pX3_findFault_143, pX3_findFault_146, pX3_findFault_147, pX3_findFault_150, pX3_findFault_153, pX3_findFault_155, nI_add, pk_mul, xn_sub, xn_and, xn_or, xn_xor, xn_shl, xn_shr, xn_lt, xn_le, xn_eq, xrf_some, xup_eq, xup_ne, xrow_eq, xrow_ne, Option.toList_some, Option.toList_none, List.singleton_append, List.nil_append, List.cons_append, xnl_n, xnl_i, xnl_r, Nat.zero_add, Nat.add_zero, ↓reduceIte, Nat.reduceEqDiff, Nat.reduceLeDiff, Nat.reduceAdd, Nat.reduceMul, Nat.reduceLT, Nat.one_ne_zero, eq_self, not_true_eq_false, not_false_eq_true, and_self, pk0, pr0, pr2, pr3, ha, hl, h']
    · have h' : gln g ≤ a := by omega
      rw [if_neg h]
      simp (disch := (first | assumption | exact xnl_i _ | exact xnl_r _ | exact xnl_n | exact Bool.toNat_lt _ | exact hb _ | exact hb2 _ | omega | exact Nat.le_of_ble_eq_true rfl | rfl | decide)) only [pX3_findFault_135, pX3_findFault_136, pX3_findFault_139, pX3_findFault_140, pX3_findFault_143, pX3_findFault_146, pX3_findFault_147, pX3_findFault_150, pX3_findFault_153, pX3_findFault_155, nI_add, pk_mul, xn_sub, xn_and, xn_or, xn_xor, xn_shl, xn_shr, xn_lt, xn_le, xn_eq, xrf_some, xup_eq, xup_ne, xrow_eq, xrow_ne, Option.toList_some, Option.toList_none, List.singleton_append, List.nil_append, List.cons_append, xnl_n, xnl_i, xnl_r, Nat.zero_add, Nat.add_zero, ↓reduceIte, Nat.reduceEqDiff, Nat.reduceLeDiff, Nat.reduceAdd, Nat.reduceMul, Nat.reduceLT, Nat.one_ne_zero, eq_self, not_true_eq_false, not_false_eq_true, and_self, pk0, pr0, pr2, pr3, ha, hl, h']
  -- behind a command
  have tail : ∀ W a m, W (x + 357) 6 = nI a → a ≤ 74 → qF V W x → W (x + 357) 5 = nI m → m < 16 → (pch g a = 44 → m + 1 < 16 → xX E mX3_findFault 73 [some (.ref (x + 357)), some (.int (nI 1))] [] S (xup (xup W (x + 357) 5 (nI (m + 1))) (x + 357) 6 (nI (a + 1))) Q) → (¬ (pch g a = 44 ∧ m + 1 < 16) → if a < gln g then Q (some (.int (nI a))) S (xup W (x + 357) 5 (nI (m + 1))) else Q (some (.int (-6))) S (xup W (x + 357) 5 (nI (m + 1)))) → xX E mX3_findFault 98 [some (.ref (x + 357)), some (.int (nI 1))] [] S W Q := by
    intro W a m ha hs hF hm hm16 hgo hend
    have f1 : qF V (xup W (x + 357) 5 (nI (m + 1))) x := qF_up hF (by decide)
    have a1 : xup W (x + 357) 5 (nI (m + 1)) (x + 357) 6 = nI a := by rw [xup_ne (by omega)]; exact ha
    have htc := fun (Q : Option Value → xSh → xV → Prop) => k_takeChar (E := E) (Q := Q) (e := 44) hT0 hd f1 hG a1 (by omega) (by decide)
    by_cases h16 : m + 1 < 16
    · have h16' : ¬ 16 ≤ m + 1 := by omega
      by_cases h44 : pch g a = 44
      · have hg := hgo h44 h16
        simp (disch := (first | assumption | exact xnl_i _ | exact xnl_r _ | exact xnl_n | exact Bool.toNat_lt _ | exact hb _ | exact hb2 _ | omega | exact Nat.le_of_ble_eq_true rfl | rfl | decide)) only [pX3_findFault_98, pX3_findFault_99, pX3_findFault_99i, pX3_findFault_100, pX3_findFault_103, pX3_findFault_104, pX3_findFault_105, pX3_findFault_108, pX3_findFault_109, pX3_findFault_112, pX3_findFault_114, pX3_findFault_117, pX3_findFault_118, pX3_findFault_120, pX3_findFault_123, pX3_findFault_126, pX3_findFault_127, pX3_findFault_130, pX3_findFault_131, pX3_findFault_132, nI_add, pk_mul, xn_sub, xn_and, xn_or, xn_xor, xn_shl, xn_shr, xn_lt, xn_le, xn_eq, xrf_some, xup_eq, xup_ne, xrow_eq, xrow_ne, Option.toList_some, Option.toList_none, List.singleton_append, List.nil_append, List.cons_append, xnl_n, xnl_i, xnl_r, Nat.zero_add, Nat.add_zero, ↓reduceIte, Nat.reduceEqDiff, Nat.reduceLeDiff, Nat.reduceAdd, Nat.reduceMul, Nat.reduceLT, Nat.one_ne_zero, eq_self, not_true_eq_false, not_false_eq_true, and_self, pk0, pr0, pr2, pr3, hm, h16', htc, h44]
        exact hg
      · have he := hend (fun z => h44 z.1)
        rw [← fin _ a (some (.int (nI 0))) a1 (by omega) f1] at he
        simp (disch := (first | assumption | exact xnl_i _ | exact xnl_r _ | exact xnl_n | exact Bool.toNat_lt _ | exact hb _ | exact hb2 _ | omega | exact Nat.le_of_ble_eq_true rfl | rfl | decide)) only [pX3_findFault_73, pX3_findFault_74, pX3_findFault_98, pX3_findFault_99, pX3_findFault_99i, pX3_findFault_100, pX3_findFault_103, pX3_findFault_104, pX3_findFault_105, pX3_findFault_108, pX3_findFault_109, pX3_findFault_112, pX3_findFault_114, pX3_findFault_117, pX3_findFault_118, pX3_findFault_120, pX3_findFault_123, pX3_findFault_126, pX3_findFault_127, pX3_findFault_130, pX3_findFault_131, pX3_findFault_132, nI_add, pk_mul, xn_sub, xn_and, xn_or, xn_xor, xn_shl, xn_shr, xn_lt, xn_le, xn_eq, xrf_some, xup_eq, xup_ne, xrow_eq, xrow_ne, Option.toList_some, Option.toList_none, List.singleton_append, List.nil_append, List.cons_append, xnl_n, xnl_i, xnl_r, Nat.zero_add, Nat.add_zero, ↓reduceIte, Nat.reduceEqDiff, Nat.reduceLeDiff, Nat.reduceAdd, Nat.reduceMul, Nat.reduceLT, Nat.one_ne_zero, eq_self, not_true_eq_false, not_false_eq_true, and_self, pk0, pr0, pr2, pr3, hm, h16', htc, h44]
        exact he
    · have h16' : 16 ≤ m + 1 := by omega
      have he := hend (fun z => h16 z.2)
      rw [← fin _ a (some (.int (nI 0))) a1 (by omega) f1] at he
      simp (disch := (first | assumption | exact xnl_i _ | exact xnl_r _ | exact xnl_n | exact Bool.toNat_lt _ | exact hb _ | exact hb2 _ | omega | exact Nat.le_of_ble_eq_true rfl | rfl | decide)) only [pX3_findFault_73, pX3_findFault_74, pX3_findFault_98, pX3_findFault_99, pX3_findFault_99i, pX3_findFault_100, pX3_findFault_103, pX3_findFault_104, pX3_findFault_105, pX3_findFault_108, pX3_findFault_109, pX3_findFault_112, pX3_findFault_114, pX3_findFault_117, pX3_findFault_118, pX3_findFault_120, pX3_findFault_123, pX3_findFault_126, pX3_findFault_127, pX3_findFault_130, pX3_findFault_131, pX3_findFault_132, nI_add, pk_mul, xn_sub, xn_and, xn_or, xn_xor, xn_shl, xn_shr, xn_lt, xn_le, xn_eq, xrf_some, xup_eq, xup_ne, xrow_eq, xrow_ne, Option.toList_some, Option.toList_none, List.singleton_append, List.nil_append, List.cons_append, xnl_n, xnl_i, xnl_r, Nat.zero_add, Nat.add_zero, ↓reduceIte, Nat.reduceEqDiff, Nat.reduceLeDiff, Nat.reduceAdd, Nat.reduceMul, Nat.reduceLT, Nat.one_ne_zero, eq_self, not_true_eq_false, not_false_eq_true, and_self, pk0, pr0, pr2, pr3, hm, h16']
      exact he
  have step : ∀ n a m f W, n + 1 + m = 16 → a ≤ 73 → qF V W x → W (x + 357) 4 = nI (pch g 0 - 48) → W (x + 357) 6 = nI a → W (x + 357) 5 = nI m → qcodes W x m f → prd g (n + 1) a m f = pparse g → (∀ a f W, m + 1 < 16 → a ≤ 73 → qF V W x → W (x + 357) 4 = nI (pch g 0 - 48) → W (x + 357) 6 = nI a → W (x + 357) 5 = nI (m + 1) → qcodes W x (m + 1) f → prd g n a (m + 1) f = pparse g → xX E mX3_findFault 73 [some (.ref (x + 357)), some (.int (nI 1))] [] S W Q) → xX E mX3_findFault 73 [some (.ref (x + 357)), some (.int (nI 1))] [] S W Q := by
    intro n a m f W hn hs hF h4 ha hm hc he ih
    have hm16 : m < 16 := by omega
    have hm16' : ¬ 16 ≤ m := by omega
    obtain ⟨W', f', j', r', hcase⟩ := k_takeCommand (E := E) hT0 hd hO hE hF hG ha hs hm hm16
    have m' : W' (x + 357) 5 = nI m := by rw [j' 5 (by decide)]; exact hm
    have w4' : W' (x + 357) 4 = nI (pch g 0 - 48) := by rw [j' 4 (by decide)]; exact h4
    rw [prd_s] at he
    cases hk : pkd (pch g a) with
    | none =>
      rw [hk] at hcase he
      obtain ⟨ha0, hi⟩ := hcase
      have he : (some a, m, f) = pparse g := he
      have hq := hQ W' f' (fun {p} h1 h2 => by rw [h1, ← he] at h2; cases h2)
      rw [← he] at hq
      simp (disch := (first | assumption | exact xnl_i _ | exact xnl_r _ | exact xnl_n | exact Bool.toNat_lt _ | exact hb _ | exact hb2 _ | omega | exact Nat.le_of_ble_eq_true rfl | rfl | decide)) only [pX3_findFault_73, pX3_findFault_74, pX3_findFault_77, pX3_findFault_78, pX3_findFault_81, pX3_findFault_83, pX3_findFault_86, pX3_findFault_87, pX3_findFault_90, pX3_findFault_93, pX3_findFault_94, pX3_findFault_97, nI_add, pk_mul, xn_sub, xn_and, xn_or, xn_xor, xn_shl, xn_shr, xn_lt, xn_le, xn_eq, xrf_some, xup_eq, xup_ne, xrow_eq, xrow_ne, Option.toList_some, Option.toList_none, List.singleton_append, List.nil_append, List.cons_append, xnl_n, xnl_i, xnl_r, Nat.zero_add, Nat.add_zero, ↓reduceIte, Nat.reduceEqDiff, Nat.reduceLeDiff, Nat.reduceAdd, Nat.reduceMul, Nat.reduceLT, Nat.one_ne_zero, eq_self, not_true_eq_false, not_false_eq_true, and_self, pk0, pr0, pr2, pr3, hm, hm16', hi, ha0]
      exact hq
    | some k =>
      rw [hk] at hcase he
      obtain ⟨ha0, hc0, hi⟩ := hcase
      have he : (if (pnum g k (a + 1)).1 = true then ptail g n (pnum g k (a + 1)).2.2 (m + 1) (fun i => if i = m then (k, (pnum g k (a + 1)).2.1) else f i) else (some (pnum g k (a + 1)).2.2, m, f)) = pparse g := he
      obtain ⟨hk6, hch0⟩ := pkd_le hk
      have hae := pch_end hG hch0
      have hend := pnum_end hG (k := k) (a := a + 1) (by omega)
      have hfault : ∀ q W', qF V W' x → (∃ m f, (some q, m, f) = pparse g) → Q (some (.int (nI q))) S W' := by
        intro q W' hF' ⟨m0, f0, h⟩
        have hq := hQ W' hF' (fun {p} h1 h2 => by rw [h1, ← h] at h2; cases h2)
        rw [← h] at hq
        exact hq
      rcases knum_pnum (g := g) (a := a + 1) hk6 with heq | ⟨hp, hok, hpos, hd1, hd2⟩ | ⟨hp, hok, hpos⟩
      · rw [heq] at he hend
        cases hok : (knum g k (a + 1)).1 with
        | true =>
          rw [hok] at hi
          rw [hok, if_pos rfl] at he
          obtain ⟨hck, hcn⟩ := hc0 hok
          have hcod : qcodes W' x (m + 1) (fun i => if i = m then (k, (knum g k (a + 1)).2.1) else f i) := fun i hi => by
            dsimp only
            by_cases him : i = m
            · subst him; rw [if_pos rfl]; exact ⟨hck, hcn⟩
            · rw [if_neg him, (r' i him).1, (r' i him).2]; exact hc i (by omega)
          have ht := tail W' (knum g k (a + 1)).2.2 m ha0 (by omega) f' m' hm16 (fun h44 h16 => by
            have hlt : (knum g k (a + 1)).2.2 < gln g := (pch_end hG (by omega)).1
            unfold ptail at he
            rw [if_pos hlt, if_pos ⟨h44, h16⟩] at he
            exact ih _ _ _ h16 (by omega) (qF_up (qF_up f' (by decide)) (by decide)) (by rw [xup_ne (by omega), xup_ne (by omega)]; exact w4') xup_eq (by rw [xup_ne (by omega), xup_eq]) (fun i hi => by rw [xup_ne (by omega), xup_ne (by omega), xup_ne (by omega), xup_ne (by omega)]; exact hcod i hi) he) (fun hno => by
            unfold ptail at he
            by_cases hlt : (knum g k (a + 1)).2.2 < gln g
            · rw [if_pos hlt, if_neg hno] at he
              rw [if_pos hlt]
              exact hfault _ _ (qF_up f' (by decide)) ⟨_, _, he⟩
            · rw [if_neg hlt] at he
              rw [if_neg hlt]
              have hq := hQ (xup W' (x + 357) 5 (nI (m + 1))) (qF_up f' (by decide)) (fun {p} h1 h2 => by
                rw [h1, ← he]
                exact ⟨by rw [xup_ne (by omega)]; exact w4', xup_eq, by show m + 1 ≤ 16; omega, fun i hi => by rw [xup_ne (by omega), xup_ne (by omega)]; exact hcod i hi⟩)
              rw [← he] at hq
              exact hq)
          simp (disch := (first | assumption | exact xnl_i _ | exact xnl_r _ | exact xnl_n | exact Bool.toNat_lt _ | exact hb _ | exact hb2 _ | omega | exact Nat.le_of_ble_eq_true rfl | rfl | decide)) only [pX3_findFault_73, pX3_findFault_74, pX3_findFault_77, pX3_findFault_78, pX3_findFault_81, pX3_findFault_83, pX3_findFault_86, pX3_findFault_87, pX3_findFault_90, pX3_findFault_93, pX3_findFault_94, pX3_findFault_97, nI_add, pk_mul, xn_sub, xn_and, xn_or, xn_xor, xn_shl, xn_shr, xn_lt, xn_le, xn_eq, xrf_some, xup_eq, xup_ne, xrow_eq, xrow_ne, Option.toList_some, Option.toList_none, List.singleton_append, List.nil_append, List.cons_append, xnl_n, xnl_i, xnl_r, Nat.zero_add, Nat.add_zero, ↓reduceIte, Nat.reduceEqDiff, Nat.reduceLeDiff, Nat.reduceAdd, Nat.reduceMul, Nat.reduceLT, Nat.one_ne_zero, eq_self, not_true_eq_false, not_false_eq_true, and_self, pk0, pr0, pr2, pr3, hm, hm16', hi, Bool.toNat_true]
          exact ht
        | false =>
          rw [hok] at hi
          rw [hok, if_neg (by decide)] at he
          have hq := hfault _ _ f' ⟨_, _, he⟩
          simp (disch := (first | assumption | exact xnl_i _ | exact xnl_r _ | exact xnl_n | exact Bool.toNat_lt _ | exact hb _ | exact hb2 _ | omega | exact Nat.le_of_ble_eq_true rfl | rfl | decide)) only [pX3_findFault_73, pX3_findFault_74, pX3_findFault_77, pX3_findFault_78, pX3_findFault_81, pX3_findFault_83, pX3_findFault_86, pX3_findFault_87, pX3_findFault_90, pX3_findFault_93, pX3_findFault_94, pX3_findFault_97, nI_add, pk_mul, xn_sub, xn_and, xn_or, xn_xor, xn_shl, xn_shr, xn_lt, xn_le, xn_eq, xrf_some, xup_eq, xup_ne, xrow_eq, xrow_ne, Option.toList_some, Option.toList_none, List.singleton_append, List.nil_append, List.cons_append, xnl_n, xnl_i, xnl_r, Nat.zero_add, Nat.add_zero, ↓reduceIte, Nat.reduceEqDiff, Nat.reduceLeDiff, Nat.reduceAdd, Nat.reduceMul, Nat.reduceLT, Nat.one_ne_zero, eq_self, not_true_eq_false, not_false_eq_true, and_self, pk0, pr0, pr2, pr3, hm, hm16', hi, ha0, Bool.toNat_false]
          exact hq
      · rw [hp] at he hend
        rw [hok] at hi
        rw [hpos] at ha0
        have he : (some (a + 1 + 1), m, f) = pparse g := he
        have hq0 := hfault _ (xup W' (x + 357) 5 (nI (m + 1))) (qF_up f' (by decide)) ⟨_, _, he⟩
        have ht := tail W' (a + 1 + 1) m ha0 (by omega) f' m' hm16 (fun h44 h16 => by omega) (fun hno => by
          rw [if_pos (pch_end hG (i := a + 1 + 1) (by omega)).1]; exact hq0)
        simp (disch := (first | assumption | exact xnl_i _ | exact xnl_r _ | exact xnl_n | exact Bool.toNat_lt _ | exact hb _ | exact hb2 _ | omega | exact Nat.le_of_ble_eq_true rfl | rfl | decide)) only [pX3_findFault_73, pX3_findFault_74, pX3_findFault_77, pX3_findFault_78, pX3_findFault_81, pX3_findFault_83, pX3_findFault_86, pX3_findFault_87, pX3_findFault_90, pX3_findFault_93, pX3_findFault_94, pX3_findFault_97, nI_add, pk_mul, xn_sub, xn_and, xn_or, xn_xor, xn_shl, xn_shr, xn_lt, xn_le, xn_eq, xrf_some, xup_eq, xup_ne, xrow_eq, xrow_ne, Option.toList_some, Option.toList_none, List.singleton_append, List.nil_append, List.cons_append, xnl_n, xnl_i, xnl_r, Nat.zero_add, Nat.add_zero, ↓reduceIte, Nat.reduceEqDiff, Nat.reduceLeDiff, Nat.reduceAdd, Nat.reduceMul, Nat.reduceLT, Nat.one_ne_zero, eq_self, not_true_eq_false, not_false_eq_true, and_self, pk0, pr0, pr2, pr3, hm, hm16', hi, Bool.toNat_true]
        exact ht
      · rw [hp, if_neg (by decide), hpos] at he
        rw [hok] at hi
        have hq := hfault _ _ f' ⟨_, _, he⟩
        simp (disch := (first | assumption | exact xnl_i _ | exact xnl_r _ | exact xnl_n | exact Bool.toNat_lt _ | exact hb _ | exact hb2 _ | omega | exact Nat.le_of_ble_eq_true rfl | rfl | decide)) only [pX3_findFault_73, pX3_findFault_74, pX3_findFault_77, pX3_findFault_78, pX3_findFault_81, pX3_findFault_83, pX3_findFault_86, pX3_findFault_87, pX3_findFault_90, pX3_findFault_93, pX3_findFault_94, pX3_findFault_97, nI_add, pk_mul, xn_sub, xn_and, xn_or, xn_xor, xn_shl, xn_shr, xn_lt, xn_le, xn_eq, xrf_some, xup_eq, xup_ne, xrow_eq, xrow_ne, Option.toList_some, Option.toList_none, List.singleton_append, List.nil_append, List.cons_append, xnl_n, xnl_i, xnl_r, Nat.zero_add, Nat.add_zero, ↓reduceIte, Nat.reduceEqDiff, Nat.reduceLeDiff, Nat.reduceAdd, Nat.reduceMul, Nat.reduceLT, Nat.one_ne_zero, eq_self, not_true_eq_false, not_false_eq_true, and_self, pk0, pr0, pr2, pr3, hm, hm16', hi, ha0, Bool.toNat_false]
        exact hq
  have loop : ∀ n a m f W, n + 1 + m = 16 → a ≤ 73 → qF V W x → W (x + 357) 4 = nI (pch g 0 - 48) → W (x + 357) 6 = nI a → W (x + 357) 5 = nI m → qcodes W x m f → prd g (n + 1) a m f = pparse g → xX E mX3_findFault 73 [some (.ref (x + 357)), some (.int (nI 1))] [] S W Q := by
    intro n
    induction n with
    | zero =>
      intro a m f W hn hs hF h4 ha hm hc he
      exact step 0 a m f W hn hs hF h4 ha hm hc he (fun a f W h16 => by omega)
    | succ n ih =>
      intro a m f W hn hs hF h4 ha hm hc he
      exact step (n + 1) a m f W hn hs hF h4 ha hm hc he (fun a f W h16 h1 h2 h3 h4 h5 h6 h7 => ih a (m + 1) f W (by omega) h1 h2 h3 h4 h5 h6 h7)
  -- the head
  obtain ⟨W0, hW0⟩ : ∃ W0, W0 = xup (xup V (x + 357) 6 (nI 0)) (x + 357) 5 (nI 0) := ⟨_, rfl⟩
  have f0 : qF V W0 x := by rw [hW0]; exact qF_up (qF_up qF_r (by decide)) (by decide)
  have a0 : W0 (x + 357) 6 = nI 0 := by rw [hW0, xup_ne (by omega), xup_eq]
  have m0 : W0 (x + 357) 5 = nI 0 := by rw [hW0, xup_eq]
  have hdg := fun (Q : Option Value → xSh → xV → Prop) => k_digitHere (E := E) (Q := Q) hT0 hd f0 hG a0 (by decide)
  obtain ⟨W1, hW1⟩ : ∃ W1, W1 = xup W0 (x + 357) 4 (nI (pdig g 0)) := ⟨_, rfl⟩
  have f1 : qF V W1 x := by rw [hW1]; exact qF_up f0 (by decide)
  have a1 : W1 (x + 357) 6 = nI 0 := by rw [hW1, xup_ne (by omega)]; exact a0
  have c1 : W1 (x + 357) 4 = nI (pdig g 0) := by rw [hW1, xup_eq]
  have hpd := pdig_le g 0
  have hpe : (if 48 ≤ pch g 0 ∧ pch g 0 ≤ 55 then (if pch g 1 = 58 then (if 2 < gln g then prd g 16 2 0 (fun _ => (0, 0)) else (none, 0, fun _ => (0, 0))) else (some 1, 0, fun _ => (0, 0))) else (some 0, 0, fun _ => (0, 0)) : Option Nat × Nat × (Nat → Nat × Nat)) = pparse g := rfl
  show xX E mX3_findFault 0 [some (.ref (x + 357)), none] [] S V Q
  have head : xX E mX3_findFault 0 [some (.ref (x + 357)), none] [] S V Q ↔ xX E mX3_findFault 18 [some (.ref (x + 357)), none] [] S W1 Q := by
    simp (disch := (first | assumption | exact xnl_i _ | exact xnl_r _ | exact xnl_n | exact Bool.toNat_lt _ | exact hb _ | exact hb2 _ | omega | exact Nat.le_of_ble_eq_true rfl | rfl | decide)) only [pX3_findFault_0, pX3_findFault_1, pX3_findFault_2, pX3_findFault_5, pX3_findFault_6, pX3_findFault_7, nI_add, pk_mul, xn_sub, xn_and, xn_or, xn_xor, xn_shl, xn_shr, xn_lt, xn_le, xn_eq, xrf_some, xup_eq, xup_ne, xrow_eq, xrow_ne, Option.toList_some, Option.toList_none, List.singleton_append, List.nil_append, List.cons_append, xnl_n, xnl_i, xnl_r, Nat.zero_add, Nat.add_zero, ↓reduceIte, Nat.reduceEqDiff, Nat.reduceLeDiff, Nat.reduceAdd, Nat.reduceMul, Nat.reduceLT, Nat.one_ne_zero, eq_self, not_true_eq_false, not_false_eq_true, and_self, pk0, pr0, pr2, pr3]
    rw [← hW0]
    simp (disch := (first | assumption | exact xnl_i _ | exact xnl_r _ | exact xnl_n | exact Bool.toNat_lt _ | exact hb _ | exact hb2 _ | omega | exact Nat.le_of_ble_eq_true rfl | rfl | decide)) only [pX3_findFault_10, pX3_findFault_11, pX3_findFault_12, pX3_findFault_15, nI_add, pk_mul, xn_sub, xn_and, xn_or, xn_xor, xn_shl, xn_shr, xn_lt, xn_le, xn_eq, xrf_some, xup_eq, xup_ne, xrow_eq, xrow_ne, Option.toList_some, Option.toList_none, List.singleton_append, List.nil_append, List.cons_append, xnl_n, xnl_i, xnl_r, Nat.zero_add, Nat.add_zero, ↓reduceIte, Nat.reduceEqDiff, Nat.reduceLeDiff, Nat.reduceAdd, Nat.reduceMul, Nat.reduceLT, Nat.one_ne_zero, eq_self, not_true_eq_false, not_false_eq_true, and_self, pk0, pr0, pr2, pr3, hdg]
    rw [← hW1]
  rw [head]
  by_cases h : 48 ≤ pch g 0 ∧ pch g 0 ≤ 55
  · have hpn : pdig g 0 = pch g 0 - 48 := pdig_n ⟨h.1, by omega⟩
    have h8 : pdig g 0 < 8 := by omega
    rw [if_pos h] at hpe
    obtain ⟨W2, hW2⟩ : ∃ W2, W2 = xup W1 (x + 357) 6 (nI 1) := ⟨_, rfl⟩
    have f2 : qF V W2 x := by rw [hW2]; exact qF_up f1 (by decide)
    have a2 : W2 (x + 357) 6 = nI 1 := by rw [hW2, xup_eq]
    have htc := fun (Q : Option Value → xSh → xV → Prop) => k_takeChar (E := E) (Q := Q) (e := 58) hT0 hd f2 hG a2 (by decide) (by decide)
    have hd2 : xX E mX3_findFault 18 [some (.ref (x + 357)), none] [] S W1 Q ↔ xX E mX3_findFault 42 [some (.ref (x + 357)), none] [] S W2 Q := by
      rw [hW2]
      have h8' : pdig g 0 < 8 := h8
      simp (disch := (first | assumption | exact xnl_i _ | exact xnl_r _ | exact xnl_n | exact Bool.toNat_lt _ | exact hb _ | exact hb2 _ | omega | exact Nat.le_of_ble_eq_true rfl | rfl | decide)) only [pX3_findFault_18, pX3_findFault_19, pX3_findFault_22, pX3_findFault_24, pX3_findFault_27, pX3_findFault_28, pX3_findFault_31, pX3_findFault_32, pX3_findFault_33, pX3_findFault_33i, pX3_findFault_34, pX3_findFault_37, pX3_findFault_38, pX3_findFault_39, nI_add, pk_mul, xn_sub, xn_and, xn_or, xn_xor, xn_shl, xn_shr, xn_lt, xn_le, xn_eq, xrf_some, xup_eq, xup_ne, xrow_eq, xrow_ne, Option.toList_some, Option.toList_none, List.singleton_append, List.nil_append, List.cons_append, xnl_n, xnl_i, xnl_r, Nat.zero_add, Nat.add_zero, ↓reduceIte, Nat.reduceEqDiff, Nat.reduceLeDiff, Nat.reduceAdd, Nat.reduceMul, Nat.reduceLT, Nat.one_ne_zero, eq_self, not_true_eq_false, not_false_eq_true, and_self, pk0, pr0, pr2, pr3, c1, h8', a1]
    rw [hd2]
    by_cases h1 : pch g 1 = 58
    · rw [if_pos h1] at hpe
      obtain ⟨W3, hW3⟩ : ∃ W3, W3 = xup W2 (x + 357) 6 (nI 2) := ⟨_, rfl⟩
      have f3 : qF V W3 x := by rw [hW3]; exact qF_up f2 (by decide)
      have a3 : W3 (x + 357) 6 = nI 2 := by rw [hW3, xup_eq]
      have c3 : W3 (x + 357) 4 = nI (pch g 0 - 48) := by rw [hW3, xup_ne (by omega), hW2, xup_ne (by omega), c1, hpn]
      have m3 : W3 (x + 357) 5 = nI 0 := by rw [hW3, xup_ne (by omega), hW2, xup_ne (by omega), hW1, xup_ne (by omega)]; exact m0
      have hl3 := hlen W3 f3
      simp (disch := (first | assumption | exact xnl_i _ | exact xnl_r _ | exact xnl_n | exact Bool.toNat_lt _ | exact hb _ | exact hb2 _ | omega | exact Nat.le_of_ble_eq_true rfl | rfl | decide)) only [pX3_findFault_42, pX3_findFault_43, pX3_findFault_45, pX3_findFault_48, nI_add, pk_mul, xn_sub, xn_and, xn_or, xn_xor, xn_shl, xn_shr, xn_lt, xn_le, xn_eq, xrf_some, xup_eq, xup_ne, xrow_eq, xrow_ne, Option.toList_some, Option.toList_none, List.singleton_append, List.nil_append, List.cons_append, xnl_n, xnl_i, xnl_r, Nat.zero_add, Nat.add_zero, ↓reduceIte, Nat.reduceEqDiff, Nat.reduceLeDiff, Nat.reduceAdd, Nat.reduceMul, Nat.reduceLT, Nat.one_ne_zero, eq_self, not_true_eq_false, not_false_eq_true, and_self, pk0, pr0, pr2, pr3, htc, h1]
      rw [← hW3]
      by_cases h2 : 2 < gln g
      · have h2' : ¬ gln g ≤ 2 := by omega
        rw [if_pos h2] at hpe
        have hl := loop 15 2 0 _ W3 rfl (by decide) f3 c3 a3 m3 (fun i hi => absurd hi (Nat.not_lt_zero i)) hpe
        simp (disch := (first | assumption | exact xnl_i _ | exact xnl_r _ | exact xnl_n | exact Bool.toNat_lt _ | exact hb _ | exact hb2 _ | omega | exact Nat.le_of_ble_eq_true rfl | rfl | decide)) only [pX3_findFault_56, pX3_findFault_57, pX3_findFault_60, pX3_findFault_61, pX3_findFault_64, pX3_findFault_67, pX3_findFault_68, pX3_findFault_71, pX3_findFault_72, nI_add, pk_mul, xn_sub, xn_and, xn_or, xn_xor, xn_shl, xn_shr, xn_lt, xn_le, xn_eq, xrf_some, xup_eq, xup_ne, xrow_eq, xrow_ne, Option.toList_some, Option.toList_none, List.singleton_append, List.nil_append, List.cons_append, xnl_n, xnl_i, xnl_r, Nat.zero_add, Nat.add_zero, ↓reduceIte, Nat.reduceEqDiff, Nat.reduceLeDiff, Nat.reduceAdd, Nat.reduceMul, Nat.reduceLT, Nat.one_ne_zero, eq_self, not_true_eq_false, not_false_eq_true, and_self, pk0, pr0, pr2, pr3, a3, hl3, h2']
        exact hl
      · have h2' : gln g ≤ 2 := by omega
        rw [if_neg h2] at hpe
        have hq := hQ W3 f3 (fun {p} h1 h2 => by rw [h1, ← hpe]; exact ⟨c3, m3, by decide, fun i hi => absurd hi (Nat.not_lt_zero i)⟩)
        rw [← hpe] at hq
        have hf := fin W3 2 (some (.int (nI 0))) a3 (by decide) f3
        rw [if_neg h2] at hf
        simp (disch := (first | assumption | exact xnl_i _ | exact xnl_r _ | exact xnl_n | exact Bool.toNat_lt _ | exact hb _ | exact hb2 _ | omega | exact Nat.le_of_ble_eq_true rfl | rfl | decide)) only [pX3_findFault_56, pX3_findFault_57, pX3_findFault_60, pX3_findFault_61, pX3_findFault_64, pX3_findFault_67, pX3_findFault_68, pX3_findFault_71, pX3_findFault_72, pX3_findFault_73, pX3_findFault_74, nI_add, pk_mul, xn_sub, xn_and, xn_or, xn_xor, xn_shl, xn_shr, xn_lt, xn_le, xn_eq, xrf_some, xup_eq, xup_ne, xrow_eq, xrow_ne, Option.toList_some, Option.toList_none, List.singleton_append, List.nil_append, List.cons_append, xnl_n, xnl_i, xnl_r, Nat.zero_add, Nat.add_zero, ↓reduceIte, Nat.reduceEqDiff, Nat.reduceLeDiff, Nat.reduceAdd, Nat.reduceMul, Nat.reduceLT, Nat.one_ne_zero, eq_self, not_true_eq_false, not_false_eq_true, and_self, pk0, pr0, pr2, pr3, a3, hl3, h2']
        exact hf.mpr hq
    · rw [if_neg h1] at hpe
      have hq := hQ W2 f2 (fun {p} h1 h2 => by rw [h1, ← hpe] at h2; cases h2)
      rw [← hpe] at hq
      simp (disch := (first | assumption | exact xnl_i _ | exact xnl_r _ | exact xnl_n | exact Bool.toNat_lt _ | exact hb _ | exact hb2 _ | omega | exact Nat.le_of_ble_eq_true rfl | rfl | decide)) only [pX3_findFault_42, pX3_findFault_43, pX3_findFault_45, pX3_findFault_48, pX3_findFault_51, pX3_findFault_52, pX3_findFault_55, nI_add, pk_mul, xn_sub, xn_and, xn_or, xn_xor, xn_shl, xn_shr, xn_lt, xn_le, xn_eq, xrf_some, xup_eq, xup_ne, xrow_eq, xrow_ne, Option.toList_some, Option.toList_none, List.singleton_append, List.nil_append, List.cons_append, xnl_n, xnl_i, xnl_r, Nat.zero_add, Nat.add_zero, ↓reduceIte, Nat.reduceEqDiff, Nat.reduceLeDiff, Nat.reduceAdd, Nat.reduceMul, Nat.reduceLT, Nat.one_ne_zero, eq_self, not_true_eq_false, not_false_eq_true, and_self, pk0, pr0, pr2, pr3, htc, h1, a2]
      exact hq
  · rw [if_neg h] at hpe
    have h8 : ¬ pdig g 0 < 8 := by
      unfold pdig
      split <;> omega
    have hq := hQ W1 f1 (fun {p} h1 h2 => by rw [h1, ← hpe] at h2; cases h2)
    rw [← hpe] at hq
    simp (disch := (first | assumption | exact xnl_i _ | exact xnl_r _ | exact xnl_n | exact Bool.toNat_lt _ | exact hb _ | exact hb2 _ | omega | exact Nat.le_of_ble_eq_true rfl | rfl | decide)) only [pX3_findFault_18, pX3_findFault_19, pX3_findFault_22, pX3_findFault_24, pX3_findFault_27, pX3_findFault_28, pX3_findFault_31, nI_add, pk_mul, xn_sub, xn_and, xn_or, xn_xor, xn_shl, xn_shr, xn_lt, xn_le, xn_eq, xrf_some, xup_eq, xup_ne, xrow_eq, xrow_ne, Option.toList_some, Option.toList_none, List.singleton_append, List.nil_append, List.cons_append, xnl_n, xnl_i, xnl_r, Nat.zero_add, Nat.add_zero, ↓reduceIte, Nat.reduceEqDiff, Nat.reduceLeDiff, Nat.reduceAdd, Nat.reduceMul, Nat.reduceLT, Nat.one_ne_zero, eq_self, not_true_eq_false, not_false_eq_true, and_self, pk0, pr0, pr2, pr3, c1, h8, a1]
    exact hq
end KFT
