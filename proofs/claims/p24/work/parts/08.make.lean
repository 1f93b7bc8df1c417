/-! ===== the instructions that make cells; copies; statics; Math; Object's constructor ===== -/
section XNW
variable {cy : Nat → ClassId} {D : va_G} {Bs : Nat} {E : Nat × Nat × Nat} {p : Program} {l : Launch} {e : Env} {R : Room} {s : State} {m : MethodId} {args : Array Value} {below : List Frame} {meth : Method} {c : Code} {Q : State → Prop} {mm : xM} {T0 Z0 : Nat} {pc : Nat} {ls : List (Option Value)} {st : List Value} {S : xSh} {V : xV}
theorem xS_new {H H' : Heap} {locs : List Loc} {A : Nat → Prop} {H0 : Heap} (hS : va_S A H0 H locs) (e2 : H'.size = H.size + 1) (e3 : ∀ q : Nat, q < H.size → H'[q]? = H[q]?) : va_S A H0 H' locs :=
  ⟨Nat.le_trans hS.1 (by omega), fun x h1 h2 => (e3 x (Nat.lt_of_lt_of_le h1 hS.1)).trans (hS.2.1 x h1 h2), hS.2.2⟩
theorem g_new (hC : xCx cy D Bs E p R s m args meth c mm) {x ci : Nat} (hT : T0 ≤ S.2.1) (hZ : Z0 ≤ S.2.2) (hf : xassoc xKt (xkey mm x) = some ci) (hrm : (xnew S (ci + 1) 0 (xN (ci + 1))).2.1 - T0 ≤ R.cells ∧ (xnew S (ci + 1) 0 (xN (ci + 1))).2.2 - Z0 ≤ R.slots) (hd : decode mm.2.1 pc = .ok (.new x, 3)) (kk : xG cy D Bs p l e R s m args below meth c Q mm.2.2.1 T0 Z0 (pc + 3) ls (.ref S.2.1 :: st) (xnew S (ci + 1) 0 (xN (ci + 1))) (xrow V S.2.1 (fun _ => 0))) : xG cy D Bs p l e R s m args below meth c Q mm.2.2.1 T0 Z0 pc ls st S V := by
  obtain ⟨h5, hw⟩ := xKt_ok _ (xassoc_mem hf)
  dsimp only at h5 hw
  obtain ⟨hc, hin, hty, hnm, hfn, hdc, hkind0⟩ := xkf (ci + 1) (by omega) (by omega)
  rw [Nat.add_sub_cancel] at hc hin
  have hii : Cond.instantiable (xcn ci) (xN (ci + 1)) ∈ xws0 ∧ Cond.initialized (xcn ci) ∈ xws0 := by
    have r : ci = 0 ∨ ci = 1 ∨ ci = 2 ∨ ci = 3 ∨ ci = 4 := by omega
    rcases r with rfl | rfl | rfl | rfl | rfl
    · exact ⟨xw_inst_0, xw_ini_0⟩
    · exact ⟨xw_inst_1, xw_ini_1⟩
    · exact ⟨xw_inst_2, xw_ini_2⟩
    · exact ⟨xw_inst_3, xw_ini_3⟩
    · exact ⟨xw_inst_4, xw_ini_4⟩
  intro H locs lsA hP hS hE hl
  have hKn := hC.hK.1 ci _ hc
  have e1 : (xnew S (ci + 1) 0 (xN (ci + 1))).2.1 - T0 = S.2.1 - T0 + 1 := by show S.2.1 + 1 - T0 = _; omega
  have e2 : (xnew S (ci + 1) 0 (xN (ci + 1))).2.2 - Z0 = S.2.2 - Z0 + xN (ci + 1) := by show S.2.2 + xN (ci + 1) - Z0 = _; omega
  rw [e1, e2] at hrm
  refine W.newcK hC.hx hC.hb hC.hown (hC.hts _ hw) (hC.hts _ hii.1) (hC.hts _ hii.2) rfl hd hrm.1 hrm.2 hKn.2.1 hP.1 fun H' kC hkC g1 g2 g3 => ?_
  rw [← hP.1] at g2 g3
  have hk : xkd (xnew S (ci + 1) 0 (xN (ci + 1))) S.2.1 = ci + 1 := by rw [xnew_kd, if_pos rfl]
  have k := kk H' locs lsA (xP_new hP (Nat.le_trans hC.hB hS.1) g2 g3 ⟨fun _ _ => ?_, fun h => by omega, fun h => by omega⟩) (xS_new hS g2 g3) (xEx_upd hE (by rw [hk]; omega) xnew_o) hl
  · rw [e1, e2] at k
    exact k
  · rw [hk]
    refine t_OB.to (u_born _ hC.hts hin hKn hkC g1 hty) (fun k hk2 => ?_)
    unfold xfv
    cases hR : xisR (ci + 1) k with
    | true =>
      have hz : xrf (xnew S (ci + 1) 0 (xN (ci + 1))) S.2.1 k = none := by simp [xrf, xnew]
      rw [if_pos rfl, hz]
      rcases xisR_ty hR with ⟨t, ht⟩ | ⟨t, ht⟩ <;> rw [ht] <;> rfl
    | false =>
      rw [if_neg (by simp)]
      have hz : xrow V S.2.1 (fun _ => 0) S.2.1 k = 0 := by simp [xrow]
      rw [hz]
      rcases hkind0 k hk2 hR with ht | ⟨ht, -⟩ <;> rw [ht] <;> rfl
theorem g_newarr (hC : xCx cy D Bs E p R s m args meth c mm) {t : ArrayType} {kd : Nat} {n : Int32} (hT : T0 ≤ S.2.1) (hZ : Z0 ≤ S.2.2) (hkd : (kd = 7 ∧ t = .int) ∨ (kd = 8 ∧ t = .char) ∨ (kd = 9 ∧ t = .boolean)) (hn : ¬ n < 0) (hn2 : n.toNatClampNeg ≤ 10000) (hrm : (xnew S kd n.toNatClampNeg n.toNatClampNeg).2.1 - T0 ≤ R.cells ∧ (xnew S kd n.toNatClampNeg n.toNatClampNeg).2.2 - Z0 ≤ R.slots) (hd : decode mm.2.1 pc = .ok (.newarray t, 2)) (kk : xG cy D Bs p l e R s m args below meth c Q mm.2.2.1 T0 Z0 (pc + 2) ls (.ref S.2.1 :: st) (xnew S kd n.toNatClampNeg n.toNatClampNeg) (xrow V S.2.1 (fun _ => 0))) : xG cy D Bs p l e R s m args below meth c Q mm.2.2.1 T0 Z0 pc ls (.int n :: st) S V := by
  intro H locs lsA hP hS hE hl
  have e1 : (xnew S kd n.toNatClampNeg n.toNatClampNeg).2.1 - T0 = S.2.1 - T0 + 1 := by show S.2.1 + 1 - T0 = _; omega
  have e2 : (xnew S kd n.toNatClampNeg n.toNatClampNeg).2.2 - Z0 = S.2.2 - Z0 + n.toNatClampNeg := by show S.2.2 + n.toNatClampNeg - Z0 = _; omega
  rw [e1, e2] at hrm
  have hk : xkd (xnew S kd n.toNatClampNeg n.toNatClampNeg) S.2.1 = kd := by rw [xnew_kd, if_pos rfl]
  have hln : xln (xnew S kd n.toNatClampNeg n.toNatClampNeg) S.2.1 = n.toNatClampNeg := by simp [xln, xnew]
  have hrow : xrow V S.2.1 (fun _ => 0) S.2.1 = fun _ => 0 := by simp [xrow]
  have fin : ∀ (H' : Heap), H'[S.2.1]? = some (arrV (cy kd) n.toNatClampNeg (fun _ => .int 0)) → H'.size = H.size + 1 → (∀ q, q < H.size → H'[q]? = H[q]?) → W p l e R s m args below meth c H' locs (S.2.1 - T0 + 1) (S.2.2 - Z0 + n.toNatClampNeg) Q (F0 m (pc + 2) lsA (.ref S.2.1 :: st)) := by
    intro H' g1 g2 g3
    have k := kk H' locs lsA (xP_new hP (Nat.le_trans hC.hB hS.1) g2 g3 ⟨fun _ h => by omega, fun _ _ => by rw [hk, hln, hrow]; exact g1, fun h => by omega⟩) (xS_new hS g2 g3) (xEx_upd hE (by rw [hk]; omega) xnew_o) hl
    rw [e1, e2] at k
    exact k
  rcases hkd with ⟨rfl, rfl⟩ | ⟨rfl, rfl⟩ | ⟨rfl, rfl⟩
  · refine va_newaK hC.hx hC.hb (atype := .int) (hC.hts _ xw_arr_int) rfl hd rfl hn rfl (Nat.le_trans (Nat.mul_le_mul_right _ hn2) (Nat.le_of_ble_eq_true rfl)) hrm.1 hrm.2 hP.1 fun H' cA g1 g2 g3 hAr hNm => ?_
    have hcA : cA = cy 7 := Option.some.inj (hNm.symm.trans (hC.hK.2 0 _ rfl).2)
    subst hcA
    rw [← hP.1] at g2 g3
    exact fin H' g1 g2 g3
  · refine va_newaK hC.hx hC.hb (atype := .char) (hC.hts _ xw_arr_char) rfl hd rfl hn rfl (Nat.le_trans (Nat.mul_le_mul_right _ hn2) (Nat.le_of_ble_eq_true rfl)) hrm.1 hrm.2 hP.1 fun H' cA g1 g2 g3 hAr hNm => ?_
    have hcA : cA = cy 8 := Option.some.inj (hNm.symm.trans (hC.hK.2 1 _ rfl).2)
    subst hcA
    rw [← hP.1] at g2 g3
    exact fin H' g1 g2 g3
  · refine va_newaK hC.hx hC.hb (atype := .boolean) (hC.hts _ xw_arr_boolean) rfl hd rfl hn rfl (Nat.le_trans (Nat.mul_le_mul_right _ hn2) (Nat.le_of_ble_eq_true rfl)) hrm.1 hrm.2 hP.1 fun H' cA g1 g2 g3 hAr hNm => ?_
    have hcA : cA = cy 9 := Option.some.inj (hNm.symm.trans (hC.hK.2 2 _ rfl).2)
    subst hcA
    rw [← hP.1] at g2 g3
    exact fin H' g1 g2 g3
theorem g_anewarr (hC : xCx cy D Bs E p R s m args meth c mm) {x ci kd : Nat} {n : Int32} (hT : T0 ≤ S.2.1) (hZ : Z0 ≤ S.2.2) (hf : xassoc xKt (xkey mm x) = some ci) (hkd : (kd = 10 ∧ ci = 0) ∨ (kd = 11 ∧ ci = 2)) (hn : ¬ n < 0) (hn2 : n.toNatClampNeg ≤ 10000) (hrm : (xnew S kd n.toNatClampNeg n.toNatClampNeg).2.1 - T0 ≤ R.cells ∧ (xnew S kd n.toNatClampNeg n.toNatClampNeg).2.2 - Z0 ≤ R.slots) (hd : decode mm.2.1 pc = .ok (.anewarray x, 3)) (kk : xG cy D Bs p l e R s m args below meth c Q mm.2.2.1 T0 Z0 (pc + 3) ls (.ref S.2.1 :: st) (xnew S kd n.toNatClampNeg n.toNatClampNeg) (xrow V S.2.1 (fun _ => 0))) : xG cy D Bs p l e R s m args below meth c Q mm.2.2.1 T0 Z0 pc ls (.int n :: st) S V := by
  obtain ⟨h5, hw⟩ := xKt_ok _ (xassoc_mem hf)
  dsimp only at h5 hw
  intro H locs lsA hP hS hE hl
  have e1 : (xnew S kd n.toNatClampNeg n.toNatClampNeg).2.1 - T0 = S.2.1 - T0 + 1 := by show S.2.1 + 1 - T0 = _; omega
  have e2 : (xnew S kd n.toNatClampNeg n.toNatClampNeg).2.2 - Z0 = S.2.2 - Z0 + n.toNatClampNeg := by show S.2.2 + n.toNatClampNeg - Z0 = _; omega
  rw [e1, e2] at hrm
  have hk : xkd (xnew S kd n.toNatClampNeg n.toNatClampNeg) S.2.1 = kd := by rw [xnew_kd, if_pos rfl]
  have hln : xln (xnew S kd n.toNatClampNeg n.toNatClampNeg) S.2.1 = n.toNatClampNeg := by simp [xln, xnew]
  have hrf : xrf (xnew S kd n.toNatClampNeg n.toNatClampNeg) S.2.1 = fun _ => none := by funext j; simp [xrf, xnew]
  have fin : ∀ (cA : ClassId), cA = cy kd → W p l e R s m args below meth c (H.push { cls := cA, slots := Array.replicate n.toNatClampNeg .null, vm := .none }) locs (S.2.1 - T0 + 1) (S.2.2 - Z0 + n.toNatClampNeg) Q (F0 m (pc + 3) lsA (.ref H.size :: st)) := by
    intro cA hcA
    subst hcA
    generalize hH1 : H.push ({ cls := cy kd, slots := Array.replicate n.toNatClampNeg .null, vm := .none } : Cell) = H1
    have g2 : H1.size = H.size + 1 := by rw [← hH1, Array.size_push]
    have g1 : H1[H.size]? = some (arrV (cy kd) n.toNatClampNeg (fun _ => .null)) := by rw [← hH1, Array.getElem?_push_size, ← arrV_new]
    have g3 : ∀ q : Nat, q < H.size → H1[q]? = H[q]? := fun q hq => by rw [← hH1, Array.getElem?_push, if_neg (Nat.ne_of_lt hq)]
    rw [hP.1] at g1
    have k := kk H1 locs lsA (xP_new hP (Nat.le_trans hC.hB hS.1) g2 g3 ⟨fun _ h => by omega, fun _ h => by omega, fun _ _ => by rw [hk, hln, hrf]; exact g1⟩) (xS_new hS g2 g3) (xEx_upd hE (by rw [hk]; omega) xnew_o) hl
    rw [e1, e2] at k
    rw [hP.1]
    exact k
  have h4 : n.toNatClampNeg * 4 ≤ 536870912 := Nat.le_trans (Nat.mul_le_mul_right _ hn2) (Nat.le_of_ble_eq_true rfl)
  rcases hkd with ⟨rfl, rfl⟩ | ⟨rfl, rfl⟩
  · refine W.anew hC.hx hC.hb hC.hown (hC.hts _ hw) (va_AO.use hC.hO.2.2.2.2.1) rfl hd rfl hn h4 hrm.1 hrm.2 fun cA kA comp f1 f2 f3 f4 => ?_
    obtain ⟨kA2, comp2, -, -, -, hnm2⟩ := (hC.hK.2 3 _ rfl).2
    exact fin cA (Option.some.inj (f1.symm.trans hnm2))
  · refine W.anew hC.hx hC.hb hC.hown (hC.hts _ hw) (va_AO.use hC.hO.2.2.2.2.2.1) rfl hd rfl hn h4 hrm.1 hrm.2 fun cA kA comp f1 f2 f3 f4 => ?_
    obtain ⟨kA2, comp2, -, -, -, hnm2⟩ := (hC.hK.2 4 _ rfl).2
    exact fin cA (Option.some.inj (f1.symm.trans hnm2))
theorem g_static (hC : xCx cy D Bs E p R s m args meth c mm) {x w : Nat} {v : Value} (hf : xassoc xSt (xkey mm x) = some w) (hv : (w = 0 ∧ v = .ref E.1) ∨ (w = 1 ∧ v = .ref E.2.1)) (hd : decode mm.2.1 pc = .ok (.getstatic x, 3)) (kk : xG cy D Bs p l e R s m args below meth c Q mm.2.2.1 T0 Z0 (pc + 3) ls (v :: st) S V) : xG cy D Bs p l e R s m args below meth c Q mm.2.2.1 T0 Z0 pc ls st S V := by
  obtain ⟨w0, w1, w2⟩ := xSt_ok _ (xassoc_mem hf)
  dsimp only at w0 w1 w2
  obtain ⟨z0, z1, z2, -, -, -, zn⟩ := hC.hO
  intro H locs lsA hP hS hE hl
  rcases hv with ⟨rfl, rfl⟩ | ⟨rfl, rfl⟩
  · rcases w0 rfl with h | h
    · exact va_gets hC.hx hC.hb z0 hS hC.hown (hC.hts _ h) (fun _ h => h) hd (kk H locs lsA hP hS hE hl)
    · exact va_getsN hC.hx hC.hb z0 hS hC.hown (va_Nw.use rfl (zn _ h)) (fun _ h => h) hd (kk H locs lsA hP hS hE hl)
  · rcases w1 rfl with h | h
    · exact va_gets hC.hx hC.hb z1 hS hC.hown (hC.hts _ h) (fun _ h => h) hd (kk H locs lsA hP hS hE hl)
    · exact va_getsN hC.hx hC.hb z1 hS hC.hown (va_Nw.use rfl (zn _ h)) (fun _ h => h) hd (kk H locs lsA hP hS hE hl)
theorem g_max (hC : xCx cy D Bs E p R s m args meth c mm) {x : Nat} {a b : Int32} (hf : xassoc xMt (xkey mm x) = some 0) (hst : xcat st ≤ 8) (hht : 0 < xht mm) (hrm : S.2.1 - T0 ≤ R.cells ∧ S.2.2 - Z0 ≤ R.slots) (hd : decode mm.2.1 pc = .ok (.invokestatic x, 3)) (kk : xG cy D Bs p l e R s m args below meth c Q mm.2.2.1 T0 Z0 (pc + 3) ls (.int (if a < b then b else a) :: st) S V) : xG cy D Bs p l e R s m args below meth c Q mm.2.2.1 T0 Z0 pc ls (.int b :: .int a :: st) S V := by
  have hw := (xMt_ok _ (xassoc_mem hf)).1 rfl
  dsimp only at hw
  intro H locs lsA hP hS hE hl
  have h1 := hC.hfr
  have h2 := hC.hlo
  have hst' : (st.map fun v => v.category).sum ≤ 8 := hst
  exact va_mmax hC.hx hC.hb (by rw [hC.hml]; exact hl.2.1.symm) hC.hown (hC.hts _ hw) (hC.hts _ xw_max_s) (hC.hts _ xw_math) (hC.hts _ xw_max_c) (by omega) (by omega) hrm.1 hrm.2 hd (kk H locs lsA hP hS hE hl)
theorem g_objInit (hC : xCx cy D Bs E p R s m args meth c mm) {x b : Nat} (hf : xkey mm x ∈ xOt) (hst : xcat st ≤ 8) (hht : 0 < xht mm) (hd : decode mm.2.1 pc = .ok (.invokespecial x, 3)) (kk : xG cy D Bs p l e R s m args below meth c Q mm.2.2.1 T0 Z0 (pc + 3) ls st S V) : xG cy D Bs p l e R s m args below meth c Q mm.2.2.1 T0 Z0 pc ls (.ref b :: st) S V := by
  have hw := xOt_ok _ hf
  intro H locs lsA hP hS hE hl
  have h1 := hC.hfr
  have h2 := hC.hlo
  have hst' : (st.map fun v => v.category).sum ≤ 8 := hst
  exact W.objInit hC.hx hC.hb hC.hown (hC.hts _ hw) (hC.hts _ xw_oiInst) (hC.hts _ xw_oiCode) rfl (by rw [hC.hml]; exact hl.2.1) rfl hd (by omega) (by show 2 * 0 + _ + 12 ≤ _; omega) (kk H locs lsA hP hS hE hl)
theorem g_copy (hC : xCx cy D Bs E p R s m args meth c mm) {x a a0 : Nat} {sp dp n : Int32} (hf : xkey mm x ∈ xAt) (hk0 : xkd S a0 = 7) (hk : xkd S a = 7) (h1 : ¬ sp < 0) (h2 : ¬ dp < 0) (h3 : ¬ n < 0) (h4 : sp.toNatClampNeg + n.toNatClampNeg ≤ xln S a0) (h5 : dp.toNatClampNeg + n.toNatClampNeg ≤ xln S a) (hst : xcat st ≤ 8) (hht : 0 < xht mm) (hd : decode mm.2.1 pc = .ok (.invokestatic x, 3)) (kk : xG cy D Bs p l e R s m args below meth c Q mm.2.2.1 T0 Z0 (pc + 3) ls st S (xrow V a (va_cpy (V a0) (V a) sp.toNatClampNeg dp.toNatClampNeg n.toNatClampNeg))) : xG cy D Bs p l e R s m args below meth c Q mm.2.2.1 T0 Z0 pc ls (.int n :: .int dp :: .ref a :: .int sp :: .ref a0 :: st) S V := by
  have hw := xAt_ok _ hf
  have nn : ∀ z : Int32, ¬ z < 0 → z.toInt = (z.toNatClampNeg : Int) := by
    intro z hz
    have hz0 : (0 : Int) ≤ z.toInt := by
      have := Int32.not_lt.mp hz
      simpa using Int32.le_iff_toInt_le.mp this
    show z.toInt = ((z.toInt.toNat : Nat) : Int)
    omega
  intro H locs lsA hP hS hE hl
  have hfr := hC.hfr
  have hlo := hC.hlo
  have hst' : (st.map fun v => v.category).sum ≤ 8 := hst
  have hr := (hP.2 a).1 (by omega) (by omega)
  have hc0 := (hP.2 a0).2.2.1 (by omega) (by omega)
  have hc1 := (hP.2 a).2.2.1 (by omega) (by omega)
  rw [hk0] at hc0
  rw [hk] at hc1
  intro T hT X
  obtain ⟨-, k0, hkk0, cm0, hkind0⟩ := (hC.hK.2 0 _ rfl).1 (xln S a0) (fun j => .int (V a0 j))
  obtain ⟨vm', X', step⟩ := X.arraycopy hC.hx hC.hown (hC.hts _ hw) (hC.hts _ xw_acNative) (hC.hts _ xw_acStatic) (hC.hts _ xw_acInit) (src := a0) (dst := a) (cs := vp_cell (cy 7) (xln S a0, .inl (V a0))) (cd := vp_cell (cy 7) (xln S a, .inl (V a))) (srcPos := sp) (destPos := dp) (n := n) (by rw [hT]; exact hc0) (by rw [hT]; exact hc1)
    (fun _ h => by cases h) (fun _ h => by cases h) (fun h => by cases h) (fun h => by cases h) hkk0 hkk0 hkind0 hkind0 (by simp [refKind]) h1 h2 h3
    (by rw [nn sp h1, nn n h3]; show ¬ _ > ((arrV (cy 7) (xln S a0) (fun j => .int (V a0 j))).slots.size : Int); rw [arrV_size]; omega)
    (by rw [nn dp h2, nn n h3]; show ¬ _ > ((arrV (cy 7) (xln S a) (fun j => .int (V a j))).slots.size : Int); rw [arrV_size]; omega)
    (fun vm₁ _ i hi => by
      have e : (vp_cell (cy 7) (xln S a0, .inl (V a0))).slots.getD (sp.toNatClampNeg + i) .null = .int (V a0 (sp.toNatClampNeg + i)) := by
        show (arrV (cy 7) (xln S a0) (fun j => .int (V a0 j))).slots.getD _ _ = _
        rw [Array.getD_eq_getD_getElem?, arrV_read _ _ (by omega)]
        rfl
      refine ⟨?_, ?_⟩
      · rw [e]
        rfl
      · rw [e]
        exact trivial)
    (g := F0 m pc lsA (.int n :: .int dp :: .ref a :: .int sp :: .ref a0 :: st)) rfl (by rw [hC.hml]; exact hl.2.1) (rest := st) rfl (by rw [hC.hb]; exact hd) (by omega) (by show 2 * 0 + _ + (5 + 2 + 11) ≤ _; omega)
  have e1 : copied (vp_cell (cy 7) (xln S a0, .inl (V a0))) (vp_cell (cy 7) (xln S a, .inl (V a))) sp dp n = vp_cell (cy 7) (xln S a, .inl (va_cpy (V a0) (V a) sp.toNatClampNeg dp.toNatClampNeg n.toNatClampNeg)) := va_copied (fun z => .int z) (cy 7) (cy 7) (V a0) (V a) h4
  rw [e1] at X' step
  have hlt : a < H.size := (Array.getElem?_eq_some_iff.mp hc1).1
  generalize hcell : vp_cell (cy 7) (xln S a, .inl (va_cpy (V a0) (V a) sp.toNatClampNeg dp.toNatClampNeg n.toNatClampNeg)) = cell at X' step
  have hheap : ((T.setVm vm').setCell a cell).heap = H.setIfInBounds a cell := by rw [← hT]; rfl
  have g3 : ∀ q : Nat, q ≠ a → (H.setIfInBounds a cell)[q]? = H[q]? := fun q hq => by simp [Array.getElem?_setIfInBounds, Ne.symm hq]
  have g2 : (H.setIfInBounds a cell).size = H.size := by simp
  have g1 : (H.setIfInBounds a cell)[a]? = some cell := by simp [Array.getElem?_setIfInBounds, hlt]
  have hrow : xrow V a (va_cpy (V a0) (V a) sp.toNatClampNeg dp.toNatClampNeg n.toNatClampNeg) a = va_cpy (V a0) (V a) sp.toNatClampNeg dp.toNatClampNeg n.toNatClampNeg := by simp [xrow]
  obtain ⟨t, a1, b1⟩ := kk _ _ lsA (xP_upd hP g2 g3 rfl rfl xrow_o ⟨fun _ h => by omega, fun _ _ => by rw [hk, hrow, g1, ← hcell]; rfl, fun h => by omega⟩) ⟨by rw [g2]; exact hS.1, fun q q1 q2 => by
      rw [g3 q (fun e => q2 (by rw [e]; exact hr.1))]
      exact hS.2.1 q q1 q2, fun q hq => by
      rcases List.mem_append.mp hq with h | h
      · exact hS.2.2 q h
      · obtain ⟨z, -, hz⟩ := List.mem_map.mp h
        rw [← hz]
        exact hr.1⟩ (xEx_upd hE (by omega) xrow_o) hl _ hheap X'
  exact ⟨t, step t a1, b1⟩
end XNW
