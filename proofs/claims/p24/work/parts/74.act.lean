/-! ===== the law's act: one of the class's operations ===== -/
theorem x15 (v : Int32) : ∃ j, j < 16 ∧ v &&& nI 15 = nI j := pk_andE v 4 (by decide)
def actOk (E : Nat × Nat × Nat) (v w : Int32) (F : pG → pR) : Prop := isOp F ∧ ∀ (S : xSh) (V : xV) (Q : Option Value → xSh → xV → Prop) (x : Nat) (g : pG), cRep S V x g → gG g → oRep E S V x → (∀ V', cRep S V' x (F g).2 → tOut V V' x → Q (some (.int (F g).1)) S V') → xC E mL_act [.ref x, .int v, .int w] S V Q
section ACT
variable {E : Nat × Nat × Nat} {v w : Int32}
theorem act_step {k : Int32} (hk : ∀ (S : xSh) (V : xV) (Q : Option Value → xSh → xV → Prop), xC E mL_low [.int (v >>> (nI 4 &&& 31)), .int (nI 8)] S V Q ↔ Q (some (.int k)) S V) (hj : ∀ (S : xSh) (V : xV) (Q : Option Value → xSh → xV → Prop) (x : Nat), xX E mL_act 13 [some (.ref x), some (.int v), some (.int w), some (.int k), none, none] [.int (v &&& nI 15)] S V Q ↔ xX E mL_act 104 [some (.ref x), some (.int v), some (.int w), some (.int k), none, none] [] S V Q) : ∃ F, actOk E v w F := by
  by_cases h3 : (w >>> (nI 10 &&& 31)) &&& nI 3 = nI 0
  · obtain ⟨r, hr⟩ := s_low (E := E) w (n := 220) (by decide) (by decide)
    refine ⟨fun g => pstep g (nI 1 + r), Or.inr (Or.inr (Or.inr (Or.inr (Or.inl ⟨_, rfl⟩)))), fun S V Q x g hR hG hO hQ => ?_⟩
    show xX E mL_act 0 [some (.ref x), some (.int v), some (.int w), none, none, none] [] S V Q
    rw [pL_act_0, pL_act_1, pL_act_2, pL_act_3, pL_act_5 (Nat.le_of_ble_eq_true rfl), hk]
    simp (disch := (first | assumption | exact xnl_i _ | exact xnl_r _ | exact xnl_n | exact Bool.toNat_lt _ | exact hb _ | exact hb2 _ | omega | exact Nat.le_of_ble_eq_true rfl | rfl | decide)) only [pL_act_8, pL_act_9, pL_act_10, pL_act_12, Option.toList_some, List.singleton_append]
    rw [hj, pL_act_104, pL_act_105, pL_act_106, pL_act_107, pL_act_108, pL_act_110, pL_act_111, pL_act_112, pL_act_113, if_neg (fun z => z h3), pL_act_116, pL_act_119, pL_act_124 (Nat.le_of_ble_eq_true rfl), hr]
    simp (disch := (first | assumption | exact xnl_i _ | exact xnl_r _ | exact xnl_n | exact Bool.toNat_lt _ | exact hb _ | exact hb2 _ | omega | exact Nat.le_of_ble_eq_true rfl | rfl | decide)) only [pL_act_127, Option.toList_some, List.singleton_append]
    rw [pL_act_128 hR.1.1 (Nat.le_of_ble_eq_true rfl)]
    refine c_step hR hG (fun V1 hR1 o1 => ?_)
    simp (disch := (first | assumption | exact xnl_i _ | exact xnl_r _ | exact xnl_n | exact Bool.toNat_lt _ | exact hb _ | exact hb2 _ | omega | exact Nat.le_of_ble_eq_true rfl | rfl | decide)) only [pL_act_131, Option.toList_some, List.singleton_append]
    exact hQ V1 hR1 o1
  · obtain ⟨r, hr⟩ := s_low (E := E) w (n := 12) (by decide) (by decide)
    refine ⟨fun g => pstep g (nI 1 + r), Or.inr (Or.inr (Or.inr (Or.inr (Or.inl ⟨_, rfl⟩)))), fun S V Q x g hR hG hO hQ => ?_⟩
    show xX E mL_act 0 [some (.ref x), some (.int v), some (.int w), none, none, none] [] S V Q
    rw [pL_act_0, pL_act_1, pL_act_2, pL_act_3, pL_act_5 (Nat.le_of_ble_eq_true rfl), hk]
    simp (disch := (first | assumption | exact xnl_i _ | exact xnl_r _ | exact xnl_n | exact Bool.toNat_lt _ | exact hb _ | exact hb2 _ | omega | exact Nat.le_of_ble_eq_true rfl | rfl | decide)) only [pL_act_8, pL_act_9, pL_act_10, pL_act_12, Option.toList_some, List.singleton_append]
    rw [hj, pL_act_104, pL_act_105, pL_act_106, pL_act_107, pL_act_108, pL_act_110, pL_act_111, pL_act_112, pL_act_113, if_pos h3, pL_act_122, pL_act_124 (Nat.le_of_ble_eq_true rfl), hr]
    simp (disch := (first | assumption | exact xnl_i _ | exact xnl_r _ | exact xnl_n | exact Bool.toNat_lt _ | exact hb _ | exact hb2 _ | omega | exact Nat.le_of_ble_eq_true rfl | rfl | decide)) only [pL_act_127, Option.toList_some, List.singleton_append]
    rw [pL_act_128 hR.1.1 (Nat.le_of_ble_eq_true rfl)]
    refine c_step hR hG (fun V1 hR1 o1 => ?_)
    simp (disch := (first | assumption | exact xnl_i _ | exact xnl_r _ | exact xnl_n | exact Bool.toNat_lt _ | exact hb _ | exact hb2 _ | omega | exact Nat.le_of_ble_eq_true rfl | rfl | decide)) only [pL_act_131, Option.toList_some, List.singleton_append]
    exact hQ V1 hR1 o1
theorem act_add {k : Int32} (hk : ∀ (S : xSh) (V : xV) (Q : Option Value → xSh → xV → Prop), xC E mL_low [.int (v >>> (nI 4 &&& 31)), .int (nI 8)] S V Q ↔ Q (some (.int k)) S V) (hj : ∀ (S : xSh) (V : xV) (Q : Option Value → xSh → xV → Prop) (x : Nat), xX E mL_act 13 [some (.ref x), some (.int v), some (.int w), some (.int k), none, none] [.int (v &&& nI 15)] S V Q ↔ xX E mL_act 132 [some (.ref x), some (.int v), some (.int w), some (.int k), none, none] [] S V Q) : ∃ F, actOk E v w F := by
  obtain ⟨c, hc⟩ := s_low (E := E) w (n := 7) (by decide) (by decide)
  obtain ⟨n, hn⟩ := s_low (E := E) (w >>> (nI 4 &&& 31)) (n := 16) (by decide) (by decide)
  have head : ∀ (S : xSh) (V : xV) (Q : Option Value → xSh → xV → Prop) (x : Nat), xC E mL_act [.ref x, .int v, .int w] S V Q ↔ xX E mL_act 157 [some (.ref x), some (.int v), some (.int w), some (.int k), some (.int c), some (.int n)] [.int (nI 2), .int c, .int c, .int k, .ref x] S V Q := by
    intro S V Q x
    show xX E mL_act 0 [some (.ref x), some (.int v), some (.int w), none, none, none] [] S V Q ↔ _
    rw [pL_act_0, pL_act_1, pL_act_2, pL_act_3, pL_act_5 (Nat.le_of_ble_eq_true rfl), hk]
    simp (disch := (first | assumption | exact xnl_i _ | exact xnl_r _ | exact xnl_n | exact Bool.toNat_lt _ | exact hb _ | exact hb2 _ | omega | exact Nat.le_of_ble_eq_true rfl | rfl | decide)) only [pL_act_8, pL_act_9, pL_act_10, pL_act_12, Option.toList_some, List.singleton_append]
    rw [hj, pL_act_132, pL_act_133, pL_act_135 (Nat.le_of_ble_eq_true rfl), hc]
    simp (disch := (first | assumption | exact xnl_i _ | exact xnl_r _ | exact xnl_n | exact Bool.toNat_lt _ | exact hb _ | exact hb2 _ | omega | exact Nat.le_of_ble_eq_true rfl | rfl | decide)) only [pL_act_138, pL_act_140, pL_act_141, pL_act_142, pL_act_143, Option.toList_some, List.singleton_append]
    rw [pL_act_145 (Nat.le_of_ble_eq_true rfl), hn]
    simp (disch := (first | assumption | exact xnl_i _ | exact xnl_r _ | exact xnl_n | exact Bool.toNat_lt _ | exact hb _ | exact hb2 _ | omega | exact Nat.le_of_ble_eq_true rfl | rfl | decide)) only [pL_act_148, pL_act_150, pL_act_151, pL_act_152, pL_act_154, pL_act_156, Option.toList_some, List.singleton_append]
  have tail : ∀ (m : Int32) (S : xSh) (V : xV) (Q : Option Value → xSh → xV → Prop) (x : Nat) (g : pG), cRep S V x g → gG g → oRep E S V x → (∀ V', cRep S V' x (padd g k c m).2 → tOut V V' x → Q (some (.int (padd g k c m).1)) S V') → xX E mL_act 185 [some (.ref x), some (.int v), some (.int w), some (.int k), some (.int c), some (.int n)] [.int m, .int c, .int k, .ref x] S V Q := by
    intro m S V Q x g hR hG hO hQ
    rw [pL_act_185 hR.1.1 (Nat.le_of_ble_eq_true rfl)]
    refine c_add hR hG hO (fun V1 hR1 o1 => ?_)
    simp (disch := (first | assumption | exact xnl_i _ | exact xnl_r _ | exact xnl_n | exact Bool.toNat_lt _ | exact hb _ | exact hb2 _ | omega | exact Nat.le_of_ble_eq_true rfl | rfl | decide)) only [pL_act_188, Option.toList_some, List.singleton_append]
    exact hQ V1 hR1 o1
  have isadd : ∀ m, isOp (fun g => padd g k c m) := fun m => Or.inr (Or.inr (Or.inr (Or.inr (Or.inr ⟨_, _, _, rfl⟩))))
  by_cases h2 : c = nI 2
  · refine ⟨_, isadd (nI 0), fun S V Q x g hR hG hO hQ => ?_⟩
    rw [head, pL_act_157, if_neg (fun z => z h2), pL_act_160, pL_act_161]
    exact tail (nI 0) S V Q x g hR hG hO hQ
  · by_cases h3 : c = nI 3
    · refine ⟨_, isadd (n &&& nI 3), fun S V Q x g hR hG hO hQ => ?_⟩
      rw [head, pL_act_157, if_pos h2, pL_act_164, pL_act_166, pL_act_167, if_pos h3, pL_act_176, pL_act_178, pL_act_179, pL_act_180]
      exact tail (n &&& nI 3) S V Q x g hR hG hO hQ
    · by_cases h4 : c = nI 4
      · refine ⟨_, isadd (n &&& nI 3), fun S V Q x g hR hG hO hQ => ?_⟩
        rw [head, pL_act_157, if_pos h2, pL_act_164, pL_act_166, pL_act_167, if_neg h3, pL_act_170, pL_act_172, pL_act_173, if_neg (fun z => z h4), pL_act_176, pL_act_178, pL_act_179, pL_act_180]
        exact tail (n &&& nI 3) S V Q x g hR hG hO hQ
      · refine ⟨_, isadd n, fun S V Q x g hR hG hO hQ => ?_⟩
        rw [head, pL_act_157, if_pos h2, pL_act_164, pL_act_166, pL_act_167, if_neg h3, pL_act_170, pL_act_172, pL_act_173, if_pos h4, pL_act_183]
        exact tail n S V Q x g hR hG hO hQ
theorem act_ex (v w : Int32) : ∃ F, actOk E v w F := by
  obtain ⟨k, hk⟩ := s_low (E := E) (v >>> (nI 4 &&& 31)) (n := 8) (by decide) (by decide)
  have head : ∀ (S : xSh) (V : xV) (Q : Option Value → xSh → xV → Prop) (x : Nat), xC E mL_act [.ref x, .int v, .int w] S V Q ↔ xX E mL_act 13 [some (.ref x), some (.int v), some (.int w), some (.int k), none, none] [.int (v &&& nI 15)] S V Q := by
    intro S V Q x
    show xX E mL_act 0 [some (.ref x), some (.int v), some (.int w), none, none, none] [] S V Q ↔ _
    rw [pL_act_0, pL_act_1, pL_act_2, pL_act_3, pL_act_5 (Nat.le_of_ble_eq_true rfl), hk]
    simp (disch := (first | assumption | exact xnl_i _ | exact xnl_r _ | exact xnl_n | exact Bool.toNat_lt _ | exact hb _ | exact hb2 _ | omega | exact Nat.le_of_ble_eq_true rfl | rfl | decide)) only [pL_act_8, pL_act_9, pL_act_10, pL_act_12, Option.toList_some, List.singleton_append]
  obtain ⟨j, hj, hjv⟩ := x15 v
  have hcase : j = 0 ∨ j = 1 ∨ j = 2 ∨ j = 3 ∨ j = 4 ∨ j = 5 ∨ j = 6 ∨ j = 7 ∨ j = 8 ∨ 8 < j := by omega
  rcases hcase with rfl | rfl | rfl | rfl | rfl | rfl | rfl | rfl | rfl | h8
  · obtain ⟨r, hr⟩ := s_low (E := E) w (n := 11) (by decide) (by decide)
    refine ⟨fun g => pprefer g k r, Or.inl ⟨_, _, rfl⟩, fun S V Q x g hR hG hO hQ => ?_⟩
    rw [head, hjv, pL_act_13_k0, pL_act_64, pL_act_65, pL_act_66, pL_act_67, pL_act_69 (Nat.le_of_ble_eq_true rfl), hr]
    simp only [Option.toList_some, List.singleton_append]
    rw [pL_act_72 hR.1.1 (Nat.le_of_ble_eq_true rfl)]
    refine c_prefer hR hG (fun V1 hR1 o1 => ?_)
    simp (disch := (first | assumption | exact xnl_i _ | exact xnl_r _ | exact xnl_n | exact Bool.toNat_lt _ | exact hb _ | exact hb2 _ | omega | exact Nat.le_of_ble_eq_true rfl | rfl | decide)) only [pL_act_75, Option.toList_some, List.singleton_append]
    exact hQ V1 hR1 o1
  · obtain ⟨r, hr⟩ := s_low (E := E) w (n := 1001) (by decide) (by decide)
    refine ⟨fun g => ppost g k r, Or.inr (Or.inl ⟨_, _, rfl⟩), fun S V Q x g hR hG hO hQ => ?_⟩
    rw [head, hjv, pL_act_13_k1, pL_act_76, pL_act_77, pL_act_78, pL_act_79, pL_act_82 (Nat.le_of_ble_eq_true rfl), hr]
    simp only [Option.toList_some, List.singleton_append]
    rw [pL_act_85 hR.1.1 (Nat.le_of_ble_eq_true rfl)]
    refine c_post hR hG (fun V1 hR1 o1 => ?_)
    simp (disch := (first | assumption | exact xnl_i _ | exact xnl_r _ | exact xnl_n | exact Bool.toNat_lt _ | exact hb _ | exact hb2 _ | omega | exact Nat.le_of_ble_eq_true rfl | rfl | decide)) only [pL_act_88, Option.toList_some, List.singleton_append]
    exact hQ V1 hR1 o1
  · obtain ⟨r, hr⟩ := s_low (E := E) w (n := 5) (by decide) (by decide)
    refine ⟨fun g => prelease g r, Or.inr (Or.inr (Or.inl ⟨_, rfl⟩)), fun S V Q x g hR hG hO hQ => ?_⟩
    rw [head, hjv, pL_act_13_k2, pL_act_89, pL_act_90, pL_act_91, pL_act_92 (Nat.le_of_ble_eq_true rfl), hr]
    simp only [Option.toList_some, List.singleton_append]
    rw [pL_act_95 hR.1.1 (Nat.le_of_ble_eq_true rfl)]
    refine c_release hR hG (fun V1 hR1 o1 => ?_)
    simp (disch := (first | assumption | exact xnl_i _ | exact xnl_r _ | exact xnl_n | exact Bool.toNat_lt _ | exact hb _ | exact hb2 _ | omega | exact Nat.le_of_ble_eq_true rfl | rfl | decide)) only [pL_act_98, Option.toList_some, List.singleton_append]
    exact hQ V1 hR1 o1
  · refine ⟨prun, Or.inr (Or.inr (Or.inr (Or.inl rfl))), fun S V Q x g hR hG hO hQ => ?_⟩
    rw [head, hjv, pL_act_13_k3, pL_act_99, pL_act_100 hR.1.1 (Nat.le_of_ble_eq_true rfl)]
    refine c_run hR hG (fun V1 hR1 o1 => ?_)
    simp (disch := (first | assumption | exact xnl_i _ | exact xnl_r _ | exact xnl_n | exact Bool.toNat_lt _ | exact hb _ | exact hb2 _ | omega | exact Nat.le_of_ble_eq_true rfl | rfl | decide)) only [pL_act_103, Option.toList_some, List.singleton_append]
    exact hQ V1 hR1 o1
  · exact act_step hk (fun S V Q x => by rw [hjv, pL_act_13_k4])
  · exact act_step hk (fun S V Q x => by rw [hjv, pL_act_13_k5])
  · exact act_step hk (fun S V Q x => by rw [hjv, pL_act_13_k6])
  · exact act_step hk (fun S V Q x => by rw [hjv, pL_act_13_k7])
  · exact act_step hk (fun S V Q x => by rw [hjv, pL_act_13_k8])
  · exact act_add hk (fun S V Q x => by
      have hd : (nI j).toInt < 0 ∨ 8 < (nI j).toInt := by rw [xn_toInt (by omega)]; omega
      rw [hjv, pL_act_13_d hd])
end ACT
