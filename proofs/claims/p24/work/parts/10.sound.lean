/-! ===== calls, returns, and every method ===== -/
theorem xstep_T {E : Nat × Nat × Nat} {mm : xM} {pc pc' : Nat} {ls ls' : List (Option Value)} {st st' : List Value} {S S' : xSh} {V V' : xV} (h : xstep E mm pc ls st S V = some (.inl (pc', ls', st', S', V'))) : S.2.1 ≤ S'.2.1 ∧ S.2.2 ≤ S'.2.2 := by
  unfold xstep at h
  cases hd : decode mm.2.1 pc with
  | error x => rw [hd] at h; cases h
  | ok ik =>
  obtain ⟨i, k⟩ := ik
  rw [hd] at h
  dsimp only at h
  cases i <;> simp only [xdo, xgo, xoff, xcall] at h <;> (repeat' split at h) <;> first
    | (cases h; done)
    | (cases h; exact ⟨Nat.le_refl _, Nat.le_refl _⟩)
    | (cases h; exact ⟨Nat.le_succ _, Nat.le_add_right _ _⟩)
theorem xrun_T {E : Nat × Nat × Nat} : ∀ (n : Nat) {mm : xM} {pc : Nat} {ls : List (Option Value)} {st : List Value} {S : xSh} {V : xV} {r : Option Value × xSh × xV}, xrun E n mm pc ls st S V = some r → S.2.1 ≤ r.2.1.2.1 ∧ S.2.2 ≤ r.2.1.2.2 := by
  intro n
  induction n with
  | zero => intro mm pc ls st S V r h; cases h
  | succ n ih =>
    intro mm pc ls st S V r h
    rw [xrun] at h
    cases hs : xstep E mm pc ls st S V with
    | none => rw [hs] at h; cases h
    | some q =>
      rw [hs] at h
      obtain ⟨pc', ls', st', S', V'⟩ | v | ⟨y, as, rest⟩ := q
      · have h1 := xstep_T hs
        have h2 := ih h
        exact ⟨Nat.le_trans h1.1 h2.1, Nat.le_trans h1.2 h2.2⟩
      · cases h
        exact ⟨Nat.le_refl _, Nat.le_refl _⟩
      · dsimp only at h
        cases hc : xrun E n y 0 (xlocs y.2.2.1 as) [] S V with
        | none => rw [hc] at h; cases h
        | some r1 =>
          rw [hc] at h
          have h1 := ih hc
          have h2 := ih h
          exact ⟨Nat.le_trans h1.1 h2.1, Nat.le_trans h1.2 h2.2⟩
section XCL
variable {cy : Nat → ClassId} {D : va_G} {Bs : Nat} {E : Nat × Nat × Nat} {p : Program} {l : Launch} {e : Env} {R : Room} {s : State} {m : MethodId} {args : Array Value} {below : List Frame} {meth : Method} {c : Code} {Q : State → Prop} {mm : xM} {T0 Z0 : Nat} {pc : Nat} {ls : List (Option Value)} {st : List Value} {S : xSh} {V : xV}
theorem xblind (as : List Value) (S : xSh) (V : xV) : FrameBlind (va_Pc as (xPic cy D Bs E S V)) := by
  intro a U g mk h
  obtain ⟨h1, hP, hK, hE, hO, hB⟩ := h
  exact ⟨h1, hP, va_K.moved (u := U) (U := U.calling g mk a) (Vm.Alike.refl U.vm) hK, xEx.moved (u := U) (U := U.calling g mk a) (Vm.Alike.refl U.vm) hE, xSo.same (u := U) (U := U.calling g mk a) rfl hO, hB⟩
theorem xpic_at (hC : xCx cy D Bs E p R s m args meth c mm) {H : Heap} {locs : List Loc} (hP : xP cy D Bs S V H) (hS : va_S (xA Bs) s.heap H locs) (hE : xEx Bs S V s s.heap) {U : State} (hU : U.heap = H) (hW : s.WarmedH U.vm) : xPic cy D Bs E S V U := by
  subst hU
  exact ⟨hP, hC.hK.moved hW.alike, (hE.kept hS.2.1).moved hW.alike, (hC.hO.kept hS.2.1).warm hW, Nat.le_trans hC.hB hS.1⟩
theorem xgood {y : xM} (h : xMok y) : GoodIn xws0 (xwsOf y) := by
  intro w hw
  rcases List.mem_cons.mp hw with rfl | hw
  · exact xws0_good _ h.1
  · exact xws0_good _ hw
theorem xCB (hC : xCx cy D Bs E p R s m args meth c mm) {y : xM} (hok : xMok y) {n : Nat} (hpd : (parseMethodDescriptor y.1.desc).map (fun d => d.parameters.length) = some n) (hht : xht y < xht mm) (mc ms : Nat) :
    ((xrm (xht y) mc ms).cells = mc ∧ (xrm (xht y) mc ms).slots = ms ∧ (xrm (xht y) mc ms).frames + 1 ≤ R.frames ∧ 8 + (y.2.2.1 + 11) + (xrm (xht y) mc ms).locals ≤ R.locals ∧ (∀ w ∈ xwsOf y, ∀ (a' : Array Value) (U : State), s.WarmedH U.vm → w.before a' U = true) ∧ Cond.code y.1 y.2.1 y.2.2.1 y.2.2.2.1 ∈ xwsOf y) ∧
    (Cond.code y.1 y.2.1 y.2.2.1 y.2.2.2.1).before args s = true ∧ (Cond.initialized y.1.cls).before args s = true ∧ (y.1.cls ≠ "java/lang/invoke/MethodHandle" ∧ y.1.cls ≠ "java/lang/invoke/VarHandle") ∧ (∀ sig, parseMethodDescriptor y.1.desc = some sig → n = sig.parameters.length) := by
  obtain ⟨h1, h2, h3, h4, h5, h6⟩ := id hok
  have hfr := hC.hfr
  have hlo := hC.hlo
  refine ⟨⟨rfl, rfl, by show xht y + 1 ≤ _; omega, by show 8 + (y.2.2.1 + 11) + 34 * xht y ≤ _; omega, pay_in hC.hts (xgood hok), List.mem_cons_self⟩, hC.hts _ h1, hC.hts _ h2, h3, fun sig h => ?_⟩
  rw [h] at hpd
  exact (Option.some.inj hpd).symm
/-- behind a call -/
theorem xrun_call (hC : xCx cy D Bs E p R s m args meth c mm) {as : List Value} {H : Heap} {locs : List Loc} {lsA : Array Slot} {st0 rest : List Value} {mc ms cells slots : Nat} {r : Option Value × xSh × xV} {a : Array Value} (hr : va_Run p l e R s m args below meth c H locs cells slots mc ms (F0 m pc lsA st0) rest (xQ cy D Bs E r a) (xA Bs)) (hS : va_S (xA Bs) s.heap H locs)
    (kk : ∀ (H1 : Heap) (locs1 : List Loc), xP cy D Bs r.2.1 r.2.2 H1 → va_S (xA Bs) s.heap H1 locs1 → xEx Bs r.2.1 r.2.2 s s.heap → W p l e R s m args below meth c H1 locs1 (cells + mc) (slots + ms) Q (F0 m (pc + 3) lsA (r.1.toList ++ rest))) : W p l e R s m args below meth c H locs cells slots Q (F0 m pc lsA st0) := by
  intro T hT X
  obtain ⟨v, st₀, t, T', L, h0, X', hL, e1, e2, ⟨hv, ⟨hP, hK, hE, hO, hB⟩, hz, hk⟩, st⟩ := hr T hT X
  cases hv
  rw [h0] at hz hk
  have hal : t.vm.Alike s.vm := by rw [← e2]; exact X'.warmed.alike.symm
  have hS1 : va_S (xA Bs) s.heap T'.heap (locs ++ L) := ⟨Nat.le_trans hS.1 (by rw [e1]; exact hz), fun q h1 h2 => by rw [e1, hk q (Nat.lt_of_lt_of_le h1 hS.1) h2]; exact hS.2.1 q h1 h2, fun q hq => by
      rcases List.mem_append.mp hq with h | h
      · exact hS.2.2 q h
      · exact hL q h⟩
  have hE1 : xEx Bs r.2.1 r.2.2 s s.heap := by
    refine (hE.moved hal).kept (fun q h1 h2 => ?_)
    have hlt : q < s.heap.size := Nat.lt_of_lt_of_le (Nat.lt_of_not_le h2) hC.hB
    rw [← e1]
    exact (hS1.2.1 q hlt h2).symm
  obtain ⟨t2, a1, b1⟩ := kk T'.heap (locs ++ L) (by rw [e1]; exact hP) hS1 hE1 T' rfl X'
  exact ⟨t2, st t2 a1, b1⟩
/-- what a call's step says of the callee -/
theorem xcall_eq {y y' : xM} {n : Nat} {as as' rest rest' : List Value} (h : xcall mm y n as rest st = some (.inr (.inr (y', as', rest')))) : y = y' ∧ as = as' ∧ rest = rest' ∧ n ≤ st.length ∧ xcat rest ≤ 8 ∧ xht y < xht mm ∧ (xargs as).length ≤ y.2.2.1 := by
  unfold xcall at h
  split at h
  · rename_i hq
    cases h
    exact ⟨rfl, rfl, rfl, hq⟩
  · cases h
theorem xcall_ok (hC : xCx cy D Bs E p R s m args meth c mm) (hT : T0 ≤ S.2.1) (hZ : Z0 ≤ S.2.2) {y : xM} {as rest : List Value} (h : xstep E mm pc ls st S V = some (.inr (.inr (y, as, rest)))) :
    xMok y ∧ xht y < xht mm ∧ (xargs as).length ≤ y.2.2.1 ∧ ∀ {r : Option Value × xSh × xV}, xMet l cy D Bs E y as S V r → S.2.1 ≤ r.2.1.2.1 → S.2.2 ≤ r.2.1.2.2 → r.2.1.2.1 - T0 ≤ R.cells ∧ r.2.1.2.2 - Z0 ≤ R.slots → xG cy D Bs p l e R s m args below meth c Q mm.2.2.1 T0 Z0 (pc + 3) ls (r.1.toList ++ rest) r.2.1 r.2.2 → xG cy D Bs p l e R s m args below meth c Q mm.2.2.1 T0 Z0 pc ls st S V := by
  unfold xstep at h
  cases hd : decode mm.2.1 pc with
  | error x => rw [hd] at h; cases h
  | ok ik =>
  obtain ⟨i, k⟩ := ik
  rw [hd] at h
  dsimp only at h
  have arith : ∀ {r : Option Value × xSh × xV}, S.2.1 ≤ r.2.1.2.1 → S.2.2 ≤ r.2.1.2.2 → S.2.1 - T0 + (r.2.1.2.1 - S.2.1) = r.2.1.2.1 - T0 ∧ S.2.2 - Z0 + (r.2.1.2.2 - S.2.2) = r.2.1.2.2 - Z0 := fun h1 h2 => ⟨by omega, by omega⟩
  cases i
  case invokevirtual x =>
    simp only [xdo] at h
    split at h
    · rename_i hk
      subst hk
      split at h
      · rename_i y0 n hf
        split at h
        · rename_i b rest0 hdr
          split at h
          · rename_i hkd
            obtain ⟨rfl, rfl, rfl, hn, hct, hht, hln⟩ := xcall_eq h
            obtain ⟨hok, hpd, h0, -⟩ := xCt_ok _ (xassoc_mem hf)
            dsimp only at hok hpd h0
            obtain ⟨w1, w2, w3, w4⟩ := h0 rfl
            refine ⟨hok, hht, hln, fun {r} hM m1 m2 hrm kk H locs lsA hP hS hE hl => ?_⟩
            obtain ⟨⟨c1, c2, c3, c4, c5, c6⟩, c7, c8, c9, c10⟩ := xCB hC hok hpd hht (r.2.1.2.1 - S.2.1) (r.2.1.2.2 - S.2.2)
            obtain ⟨a1, a2⟩ := arith m1 m2
            have hst : st = (st.take n).reverse.reverse ++ .ref b :: rest0 := by rw [List.reverse_reverse, ← hdr, List.take_append_drop]
            have hrecv : ∃ cellB : Cell, H[b]? = some cellB ∧ cellB.vm.isStatics = false ∧ s.vm.findClass y0.1.cls = some cellB.cls := by
              rw [hok.2.2.2.1]
              · have hkd2 : xkd S b = xown y0 + 1 := by rw [hkd]; unfold xkdo; rw [if_neg (by omega)]
                obtain ⟨cell, q1, q2, q3, -⟩ := (hP.2 b).2.1 (by omega) (by omega)
                rw [hkd2] at q2
                obtain ⟨hc, -⟩ := xkf (xown y0 + 1) (by omega) (by omega)
                rw [Nat.add_sub_cancel] at q2 hc
                exact ⟨cell, q1, by rw [q3]; rfl, by rw [q2]; exact (hC.hK.1 _ _ hc).2.1⟩
            refine xrun_call (as := .ref b :: (st.take n).reverse) hC (va_runV (As := (st.take n).reverse) (rest := rest0) (nL := mm.2.2.1) (n := n) (C := y0.1.cls) (own := xcn (xown mm)) (Ts := xws0) (maxL := y0.2.2.1) (bytes := y0.2.1) (ret := y0.2.2.2.1) ⟨hC.hx, hC.hb, hC.hml, hC.hown, hC.hts⟩ hM ⟨⟨c1, c2, c3, c4, c5, c6, c7, c8, c9, c10, hC.hts _ w1⟩, hC.hts _ w2, hC.hts _ w3⟩ ⟨xblind _ _ _, hrecv, fun U hU hW => ⟨rfl, xpic_at hC hP hS hE hU hW⟩⟩ rfl (by rw [List.length_reverse, List.length_take]; omega) hl.2.1 hst (lv_room hct) hd (by rw [a1, a2]; exact hrm)) hS (fun H1 locs1 g1 g2 g3 => ?_)
            rw [a1, a2]
            exact kk H1 locs1 lsA g1 g2 g3 hl
          · cases h
        · cases h
      · cases h
    · cases h
  case invokestatic x =>
    simp only [xdo] at h
    split at h
    · rename_i hk
      subst hk
      split at h
      · rename_i y0 n hf
        obtain ⟨rfl, rfl, rfl, hn, hct, hht, hln⟩ := xcall_eq h
        obtain ⟨hok, hpd, -, h0, -⟩ := xCt_ok _ (xassoc_mem hf)
        dsimp only at hok hpd h0
        obtain ⟨w1, w2⟩ := h0 rfl
        refine ⟨hok, hht, hln, fun {r} hM m1 m2 hrm kk H locs lsA hP hS hE hl => ?_⟩
        obtain ⟨⟨c1, c2, c3, c4, c5, c6⟩, c7, c8, c9, c10⟩ := xCB hC hok hpd hht (r.2.1.2.1 - S.2.1) (r.2.1.2.2 - S.2.2)
        obtain ⟨a1, a2⟩ := arith m1 m2
        have hst : st = (st.take n).reverse.reverse ++ st.drop n := by rw [List.reverse_reverse, List.take_append_drop]
        refine xrun_call (as := (st.take n).reverse) hC (va_runS (As := (st.take n).reverse) (rest := st.drop n) (nL := mm.2.2.1) (n := n) (own := xcn (xown mm)) (Ts := xws0) (maxL := y0.2.2.1) (bytes := y0.2.1) (ret := y0.2.2.2.1) ⟨hC.hx, hC.hb, hC.hml, hC.hown, hC.hts⟩ hM ⟨⟨c1, c2, c3, c4, c5, c6, c7, c8, c9, c10, hC.hts _ w1⟩, hC.hts _ w2⟩ ⟨xblind _ _ _, fun U hU hW => ⟨rfl, xpic_at hC hP hS hE hU hW⟩⟩ rfl (by rw [List.length_reverse, List.length_take]; omega) hl.2.1 hst (lv_room hct) hd (by rw [a1, a2]; exact hrm)) hS (fun H1 locs1 g1 g2 g3 => ?_)
        rw [a1, a2]
        exact kk H1 locs1 lsA g1 g2 g3 hl
      · rename_i y0 n hf
        obtain ⟨rfl, rfl, rfl, hn, hct, hht, hln⟩ := xcall_eq h
        obtain ⟨hok, hpd, -, -, -, h0, -⟩ := xCt_ok _ (xassoc_mem hf)
        dsimp only at hok hpd h0
        obtain ⟨w1, w2⟩ := h0 rfl
        refine ⟨hok, hht, hln, fun {r} hM m1 m2 hrm kk H locs lsA hP hS hE hl => ?_⟩
        obtain ⟨⟨c1, c2, c3, c4, c5, c6⟩, c7, c8, c9, c10⟩ := xCB hC hok hpd hht (r.2.1.2.1 - S.2.1) (r.2.1.2.2 - S.2.2)
        obtain ⟨a1, a2⟩ := arith m1 m2
        have hst : st = (st.take n).reverse.reverse ++ st.drop n := by rw [List.reverse_reverse, List.take_append_drop]
        refine xrun_call (as := (st.take n).reverse) hC (va_runSN (As := (st.take n).reverse) (rest := st.drop n) (nL := mm.2.2.1) (n := n) (own := xcn (xown mm)) (host := "TurnSlots") (Ts := xws0) (maxL := y0.2.2.1) (bytes := y0.2.1) (ret := y0.2.2.2.1) ⟨hC.hx, hC.hb, hC.hml, hC.hown, hC.hts⟩ hM ⟨⟨⟨c1, c2, c3, c4, c5, c6⟩, c7, c8, c9, c10, va_Nw.use rfl (hC.hO.2.2.2.2.2.2 _ w1)⟩, hC.hts _ w2, trivial⟩ ⟨xblind _ _ _, fun U hU hW => ⟨rfl, xpic_at hC hP hS hE hU hW⟩⟩ rfl (by rw [List.length_reverse, List.length_take]; omega) hl.2.1 hst (lv_room hct) hd (by rw [a1, a2]; exact hrm)) hS (fun H1 locs1 g1 g2 g3 => ?_)
        rw [a1, a2]
        exact kk H1 locs1 lsA g1 g2 g3 hl
      · cases h
      · exfalso
        unfold xgo at h
        repeat' (split at h)
        all_goals cases h
    · cases h
  case invokespecial x =>
    simp only [xdo] at h
    split at h
    · rename_i hk
      subst hk
      split at h
      · rename_i y0 n hf
        split at h
        · rename_i b rest0 hdr
          obtain ⟨rfl, rfl, rfl, hn, hct, hht, hln⟩ := xcall_eq h
          obtain ⟨hok, hpd, -, -, h0, -⟩ := xCt_ok _ (xassoc_mem hf)
          dsimp only at hok hpd h0
          obtain ⟨w1, w2, w3, w4⟩ := h0 rfl
          refine ⟨hok, hht, hln, fun {r} hM m1 m2 hrm kk H locs lsA hP hS hE hl => ?_⟩
          obtain ⟨⟨c1, c2, c3, c4, c5, c6⟩, c7, c8, c9, c10⟩ := xCB hC hok hpd hht (r.2.1.2.1 - S.2.1) (r.2.1.2.2 - S.2.2)
          obtain ⟨a1, a2⟩ := arith m1 m2
          rw [w4] at c6 c7
          have hst : st = (st.take n).reverse.reverse ++ .ref b :: rest0 := by rw [List.reverse_reverse, ← hdr, List.take_append_drop]
          refine xrun_call (as := .ref b :: (st.take n).reverse) hC (va_runI (As := (st.take n).reverse) (rest := rest0) (nL := mm.2.2.1) (n := n) (own := xcn (xown mm)) (Ts := xws0) (maxL := y0.2.2.1) (bytes := y0.2.1) ⟨hC.hx, hC.hb, hC.hml, hC.hown, hC.hts⟩ hM ⟨⟨c1, c2, c3, c4, c5, c6, c7, c8, c9, c10, hC.hts _ w1⟩, w3, hC.hts _ w2⟩ ⟨xblind _ _ _, fun U hU hW => ⟨rfl, xpic_at hC hP hS hE hU hW⟩⟩ rfl (by rw [List.length_reverse, List.length_take]; omega) hl.2.1 hst (lv_room hct) hd (by rw [a1, a2]; exact hrm)) hS (fun H1 locs1 g1 g2 g3 => ?_)
          rw [a1, a2]
          exact kk H1 locs1 lsA g1 g2 g3 hl
        · cases h
      · rename_i y0 n hf
        split at h
        · rename_i b rest0 hdr
          obtain ⟨rfl, rfl, rfl, hn, hct, hht, hln⟩ := xcall_eq h
          obtain ⟨hok, hpd, -, -, -, -, h0⟩ := xCt_ok _ (xassoc_mem hf)
          dsimp only at hok hpd h0
          obtain ⟨w1, w2, w3, w4⟩ := h0 rfl
          refine ⟨hok, hht, hln, fun {r} hM m1 m2 hrm kk H locs lsA hP hS hE hl => ?_⟩
          obtain ⟨⟨c1, c2, c3, c4, c5, c6⟩, c7, c8, c9, c10⟩ := xCB hC hok hpd hht (r.2.1.2.1 - S.2.1) (r.2.1.2.2 - S.2.2)
          obtain ⟨a1, a2⟩ := arith m1 m2
          rw [w4] at c6 c7
          have hst : st = (st.take n).reverse.reverse ++ .ref b :: rest0 := by rw [List.reverse_reverse, ← hdr, List.take_append_drop]
          refine xrun_call (as := .ref b :: (st.take n).reverse) hC (va_runIN (As := (st.take n).reverse) (rest := rest0) (nL := mm.2.2.1) (n := n) (own := xcn (xown mm)) (host := "TurnSlots") (Ts := xws0) (maxL := y0.2.2.1) (bytes := y0.2.1) ⟨hC.hx, hC.hb, hC.hml, hC.hown, hC.hts⟩ hM ⟨⟨⟨c1, c2, c3, c4, c5, c6⟩, c7, c8, c9, c10, va_Nw.use rfl (hC.hO.2.2.2.2.2.2 _ w1)⟩, w3, hC.hts _ w2⟩ ⟨xblind _ _ _, fun U hU hW => ⟨rfl, xpic_at hC hP hS hE hU hW⟩⟩ rfl (by rw [List.length_reverse, List.length_take]; omega) hl.2.1 hst (lv_room hct) hd (by rw [a1, a2]; exact hrm)) hS (fun H1 locs1 g1 g2 g3 => ?_)
          rw [a1, a2]
          exact kk H1 locs1 lsA g1 g2 g3 hl
        · cases h
      · cases h
      · exfalso
        unfold xgo at h
        repeat' (split at h)
        all_goals cases h
    · cases h
  all_goals (exfalso; simp only [xdo, xgo, xoff] at h; repeat' (split at h))
  all_goals cases h
/-- a method from any place: its run, given its calls and its return -/
theorem xrun_ok (hC : xCx cy D Bs E p R s m args meth c mm) {r : Option Value × xSh × xV}
    (hret : ∀ (pc : Nat) (ls : List (Option Value)) (st : List Value) (S : xSh) (V : xV) (v : Option Value), xstep E mm pc ls st S V = some (.inr (.inl v)) → (v, S, V) = r → xG cy D Bs p l e R s m args below meth c Q mm.2.2.1 T0 Z0 pc ls st S V)
    (hcall : ∀ (y : xM) (as : List Value) (S : xSh) (V : xV) (n : Nat) (r : Option Value × xSh × xV), xMok y → xht y < xht mm → (xargs as).length ≤ y.2.2.1 → xrun E n y 0 (xlocs y.2.2.1 as) [] S V = some r → xMet l cy D Bs E y as S V r)
    (hrm : r.2.1.2.1 - T0 ≤ R.cells ∧ r.2.1.2.2 - Z0 ≤ R.slots) : ∀ (n : Nat) (pc : Nat) (ls : List (Option Value)) (st : List Value) (S : xSh) (V : xV), xrun E n mm pc ls st S V = some r → T0 ≤ S.2.1 → Z0 ≤ S.2.2 → xG cy D Bs p l e R s m args below meth c Q mm.2.2.1 T0 Z0 pc ls st S V := by
  intro n
  induction n with
  | zero => intro pc ls st S V h; cases h
  | succ n ih =>
    intro pc ls st S V h hT hZ
    rw [xrun] at h
    cases hs : xstep E mm pc ls st S V with
    | none => rw [hs] at h; cases h
    | some q =>
      rw [hs] at h
      obtain ⟨pc', ls', st', S', V'⟩ | v | ⟨y, as, rest⟩ := q
      · have h1 := xstep_T hs
        have h2 := xrun_T n h
        dsimp only at h2
        exact xnext_ok hC hT hZ hs (by omega) (ih _ _ _ _ _ h (by omega) (by omega))
      · exact hret _ _ _ _ _ _ hs (Option.some.inj h)
      · dsimp only at h
        cases hc : xrun E n y 0 (xlocs y.2.2.1 as) [] S V with
        | none => rw [hc] at h; cases h
        | some r1 =>
          rw [hc] at h
          have h1 := xrun_T n hc
          have h2 := xrun_T n h
          obtain ⟨hok, hht, hln, k⟩ := xcall_ok (l := l) (e := e) (below := below) (Q := Q) hC hT hZ hs
          exact k (hcall y as S V n r1 hok hht hln hc) h1.1 h1.2 (by omega) (ih _ _ _ _ _ h (by omega) (by omega))
end XCL
/-- EVERY METHOD: what the pure machine computes of a call is a contract of the machine -/
theorem xsound (l : Launch) (cy : Nat → ClassId) (D : va_G) (Bs : Nat) (E : Nat × Nat × Nat) : ∀ (k : Nat) (y : xM), xht y < k → xMok y → ∀ (as : List Value) (S : xSh) (V : xV) (n : Nat) (r : Option Value × xSh × xV), (xargs as).length ≤ y.2.2.1 → xrun E n y 0 (xlocs y.2.2.1 as) [] S V = some r → xMet l cy D Bs E y as S V r := by
  intro k
  induction k with
  | zero => intro y h; omega
  | succ k ih =>
    intro y hk hok as S V n r hln hrun
    refine Met.ofW (cc := y.2.1) (maxL := y.2.2.1) (ret := y.2.2.2.1) hok.2.2.2.2.2 rfl ?_
    intro p e s m args below meth c s₁ B hml hv
    obtain ⟨rfl, hP, hK, hE, hO, hB⟩ := hv
    have hts0 := atoms_spec (ws := xwsOf y) B.pre
    have hown : s.vm.findClass (xcn (xown y)) = some m.cls := by rw [← hok.2.2.2.1]; exact findClass_of_methodNamed B.named
    have hC : xCx cy D Bs E p (headSpec (xwsOf y) (xrm (xht y) (r.2.1.2.1 - S.2.1) (r.2.1.2.2 - S.2.2))).room s m as.toArray meth c y :=
      ⟨B.exec, B.bytes, hml, hown, (fun _ => (name_of_methodNamed B.named B.method).1), fun w hw => hts0 w (List.mem_cons_of_mem _ hw), hK, hO, hB, Nat.le_refl _, Nat.le_refl _⟩
    have hr := B.returns
    have hlocks := B.notSynchronized
    rw [lg_entry_eq]
    have main := xrun_ok (l := l) (e := e) (below := below) (Q := MQ below (xQ cy D Bs E r) as.toArray s (r.2.1.2.1 - S.2.1) (r.2.1.2.2 - S.2.2) (xA Bs)) (T0 := S.2.1) (Z0 := S.2.2) hC (r := r) ?_ (fun y' as' S' V' n' r' hok' hht' hln' hrun' => ih y' (by omega) hok' as' S' V' n' r' hln' hrun') ⟨Nat.le_refl _, Nat.le_refl _⟩ n 0 (xlocs y.2.2.1 as) [] S V hrun (Nat.le_refl _) (Nat.le_refl _)
    · have k0 := main s.heap [] _ hP va_S.rf hE (xLo_entry as hln)
      rw [Nat.sub_self, Nat.sub_self] at k0
      exact k0
    · intro pc ls st S' V' v hs he
      subst he
      intro H locs lsA hP' hS' hE' hl'
      unfold xstep at hs
      cases hd : decode y.2.1 pc with
      | error x => rw [hd] at hs; cases hs
      | ok ik =>
      obtain ⟨i, kk⟩ := ik
      rw [hd] at hs
      dsimp only at hs
      cases i
      case ireturn =>
        simp only [xdo] at hs
        split at hs
        · rename_i hk1
          subst hk1
          split at hs
          · split at hs
            · rename_i ty hty
              split at hs
              · rename_i hn
                cases hs
                exact W.zret (ty := ty) hC.hx hC.hb (hr.trans hty) hn (fun t ht hW => ⟨rfl, xpic_at hC hP' hS' hE' ht hW, hS'.F ht⟩) hS'.2.2 hd hlocks
              · cases hs
            · cases hs
          · cases hs
        · cases hs
      case lreturn =>
        simp only [xdo] at hs
        split at hs
        · rename_i hk1
          subst hk1
          split at hs
          · split at hs
            · rename_i hty
              cases hs
              exact W.lret hC.hx hC.hb (hr.trans hty) (fun t ht hW => ⟨rfl, xpic_at hC hP' hS' hE' ht hW, hS'.F ht⟩) hS'.2.2 hd hlocks
            · cases hs
          · cases hs
        · cases hs
      case areturn =>
        simp only [xdo] at hs
        split at hs
        · rename_i hk1
          subst hk1
          split at hs
          · split at hs
            · rename_i o hty
              cases hs
              exact W.aret hC.hx hC.hb (hr.trans hty) (Or.inl ⟨_, rfl⟩) (Or.inr ⟨_, rfl⟩) (fun t ht hW => ⟨rfl, xpic_at hC hP' hS' hE' ht hW, hS'.F ht⟩) hS'.2.2 hd hlocks
            · rename_i o hty
              cases hs
              exact W.aret hC.hx hC.hb (hr.trans hty) (Or.inr ⟨_, rfl⟩) (Or.inr ⟨_, rfl⟩) (fun t ht hW => ⟨rfl, xpic_at hC hP' hS' hE' ht hW, hS'.F ht⟩) hS'.2.2 hd hlocks
            · cases hs
          · cases hs
        · cases hs
      case return_ =>
        simp only [xdo] at hs
        split at hs
        · rename_i hk1
          subst hk1
          split at hs
          · split at hs
            · rename_i hty
              cases hs
              exact W.vret hC.hx hC.hb (hr.trans hty) (fun t ht hW => ⟨rfl, xpic_at hC hP' hS' hE' ht hW, hS'.F ht⟩) hS'.2.2 hd hlocks
            · cases hs
          · cases hs
        · cases hs
      all_goals (exfalso; simp only [xdo, xgo, xoff, xcall] at hs; repeat' (split at hs))
      all_goals cases hs
