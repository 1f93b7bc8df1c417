/-! ===== a step, whichever it is ===== -/
section XDI
variable {cy : Nat → ClassId} {D : va_G} {Bs : Nat} {E : Nat × Nat × Nat} {p : Program} {l : Launch} {e : Env} {R : Room} {s : State} {m : MethodId} {args : Array Value} {below : List Frame} {meth : Method} {c : Code} {Q : State → Prop} {mm : xM} {T0 Z0 : Nat} {pc : Nat} {ls : List (Option Value)} {st : List Value} {S : xSh} {V : xV}
theorem lv_if_eq' {H : Heap} {locs : List Loc} {cells slots : Nat} {lsA : Array Slot} {rest : List Value} {cc : ByteArray} (hexec : p.tables.exec = Jvm.exec) (hb : c.code = cc) {x : Int32} {off : Int} (hdg : decode cc pc = .ok (.ifCond .eq off, 3)) (hP : ¬ (x = 0)) (kf : W p l e R s m args below meth c H locs cells slots Q (F0 m (pc + 3) lsA rest)) : W p l e R s m args below meth c H locs cells slots Q (F0 m pc lsA (.int x :: rest)) := by
  intro T hT X
  obtain ⟨t, a, b⟩ := kf T hT X
  refine ⟨t, ?_, b⟩
  jvm_step X.here [X.here.top, hexec, hb, hdg, Op.ifCond.holds, hP]
  exact a
theorem lv_icmp_eq' {H : Heap} {locs : List Loc} {cells slots : Nat} {lsA : Array Slot} {rest : List Value} {cc : ByteArray} (hexec : p.tables.exec = Jvm.exec) (hb : c.code = cc) {x y : Int32} {off : Int} (hdg : decode cc pc = .ok (.if_icmp .eq off, 3)) (hP : ¬ (x = y)) (kf : W p l e R s m args below meth c H locs cells slots Q (F0 m (pc + 3) lsA rest)) : W p l e R s m args below meth c H locs cells slots Q (F0 m pc lsA (.int y :: .int x :: rest)) := by
  intro T hT X
  obtain ⟨t, a, b⟩ := kf T hT X
  refine ⟨t, ?_, b⟩
  jvm_step X.here [X.here.top, hexec, hb, hdg, Op.if_icmp.holds, hP]
  exact a
theorem lv_if_ne' {H : Heap} {locs : List Loc} {cells slots : Nat} {lsA : Array Slot} {rest : List Value} {cc : ByteArray} (hexec : p.tables.exec = Jvm.exec) (hb : c.code = cc) {x : Int32} {off : Int} (hdg : decode cc pc = .ok (.ifCond .ne off, 3)) (hP : x = 0) (kf : W p l e R s m args below meth c H locs cells slots Q (F0 m (pc + 3) lsA rest)) : W p l e R s m args below meth c H locs cells slots Q (F0 m pc lsA (.int x :: rest)) := by
  intro T hT X
  obtain ⟨t, a, b⟩ := kf T hT X
  refine ⟨t, ?_, b⟩
  jvm_step X.here [X.here.top, hexec, hb, hdg, Op.ifCond.holds, hP]
  exact a
theorem lv_icmp_ne' {H : Heap} {locs : List Loc} {cells slots : Nat} {lsA : Array Slot} {rest : List Value} {cc : ByteArray} (hexec : p.tables.exec = Jvm.exec) (hb : c.code = cc) {x y : Int32} {off : Int} (hdg : decode cc pc = .ok (.if_icmp .ne off, 3)) (hP : x = y) (kf : W p l e R s m args below meth c H locs cells slots Q (F0 m (pc + 3) lsA rest)) : W p l e R s m args below meth c H locs cells slots Q (F0 m pc lsA (.int y :: .int x :: rest)) := by
  intro T hT X
  obtain ⟨t, a, b⟩ := kf T hT X
  refine ⟨t, ?_, b⟩
  jvm_step X.here [X.here.top, hexec, hb, hdg, Op.if_icmp.holds, hP]
  exact a
theorem lv_if_lt' {H : Heap} {locs : List Loc} {cells slots : Nat} {lsA : Array Slot} {rest : List Value} {cc : ByteArray} (hexec : p.tables.exec = Jvm.exec) (hb : c.code = cc) {x : Int32} {off : Int} (hdg : decode cc pc = .ok (.ifCond .lt off, 3)) (hP : ¬ (x < 0)) (kf : W p l e R s m args below meth c H locs cells slots Q (F0 m (pc + 3) lsA rest)) : W p l e R s m args below meth c H locs cells slots Q (F0 m pc lsA (.int x :: rest)) := by
  intro T hT X
  obtain ⟨t, a, b⟩ := kf T hT X
  refine ⟨t, ?_, b⟩
  jvm_step X.here [X.here.top, hexec, hb, hdg, Op.ifCond.holds, hP]
  exact a
theorem lv_icmp_lt' {H : Heap} {locs : List Loc} {cells slots : Nat} {lsA : Array Slot} {rest : List Value} {cc : ByteArray} (hexec : p.tables.exec = Jvm.exec) (hb : c.code = cc) {x y : Int32} {off : Int} (hdg : decode cc pc = .ok (.if_icmp .lt off, 3)) (hP : ¬ (x < y)) (kf : W p l e R s m args below meth c H locs cells slots Q (F0 m (pc + 3) lsA rest)) : W p l e R s m args below meth c H locs cells slots Q (F0 m pc lsA (.int y :: .int x :: rest)) := by
  intro T hT X
  obtain ⟨t, a, b⟩ := kf T hT X
  refine ⟨t, ?_, b⟩
  jvm_step X.here [X.here.top, hexec, hb, hdg, Op.if_icmp.holds, hP]
  exact a
theorem lv_if_ge' {H : Heap} {locs : List Loc} {cells slots : Nat} {lsA : Array Slot} {rest : List Value} {cc : ByteArray} (hexec : p.tables.exec = Jvm.exec) (hb : c.code = cc) {x : Int32} {off : Int} (hdg : decode cc pc = .ok (.ifCond .ge off, 3)) (hP : ¬ (0 ≤ x)) (kf : W p l e R s m args below meth c H locs cells slots Q (F0 m (pc + 3) lsA rest)) : W p l e R s m args below meth c H locs cells slots Q (F0 m pc lsA (.int x :: rest)) := by
  intro T hT X
  obtain ⟨t, a, b⟩ := kf T hT X
  refine ⟨t, ?_, b⟩
  jvm_step X.here [X.here.top, hexec, hb, hdg, Op.ifCond.holds, hP]
  exact a
theorem lv_icmp_ge' {H : Heap} {locs : List Loc} {cells slots : Nat} {lsA : Array Slot} {rest : List Value} {cc : ByteArray} (hexec : p.tables.exec = Jvm.exec) (hb : c.code = cc) {x y : Int32} {off : Int} (hdg : decode cc pc = .ok (.if_icmp .ge off, 3)) (hP : ¬ (y ≤ x)) (kf : W p l e R s m args below meth c H locs cells slots Q (F0 m (pc + 3) lsA rest)) : W p l e R s m args below meth c H locs cells slots Q (F0 m pc lsA (.int y :: .int x :: rest)) := by
  intro T hT X
  obtain ⟨t, a, b⟩ := kf T hT X
  refine ⟨t, ?_, b⟩
  jvm_step X.here [X.here.top, hexec, hb, hdg, Op.if_icmp.holds, hP]
  exact a
theorem lv_if_gt' {H : Heap} {locs : List Loc} {cells slots : Nat} {lsA : Array Slot} {rest : List Value} {cc : ByteArray} (hexec : p.tables.exec = Jvm.exec) (hb : c.code = cc) {x : Int32} {off : Int} (hdg : decode cc pc = .ok (.ifCond .gt off, 3)) (hP : ¬ (0 < x)) (kf : W p l e R s m args below meth c H locs cells slots Q (F0 m (pc + 3) lsA rest)) : W p l e R s m args below meth c H locs cells slots Q (F0 m pc lsA (.int x :: rest)) := by
  intro T hT X
  obtain ⟨t, a, b⟩ := kf T hT X
  refine ⟨t, ?_, b⟩
  jvm_step X.here [X.here.top, hexec, hb, hdg, Op.ifCond.holds, hP]
  exact a
theorem lv_icmp_gt' {H : Heap} {locs : List Loc} {cells slots : Nat} {lsA : Array Slot} {rest : List Value} {cc : ByteArray} (hexec : p.tables.exec = Jvm.exec) (hb : c.code = cc) {x y : Int32} {off : Int} (hdg : decode cc pc = .ok (.if_icmp .gt off, 3)) (hP : ¬ (y < x)) (kf : W p l e R s m args below meth c H locs cells slots Q (F0 m (pc + 3) lsA rest)) : W p l e R s m args below meth c H locs cells slots Q (F0 m pc lsA (.int y :: .int x :: rest)) := by
  intro T hT X
  obtain ⟨t, a, b⟩ := kf T hT X
  refine ⟨t, ?_, b⟩
  jvm_step X.here [X.here.top, hexec, hb, hdg, Op.if_icmp.holds, hP]
  exact a
theorem lv_if_le' {H : Heap} {locs : List Loc} {cells slots : Nat} {lsA : Array Slot} {rest : List Value} {cc : ByteArray} (hexec : p.tables.exec = Jvm.exec) (hb : c.code = cc) {x : Int32} {off : Int} (hdg : decode cc pc = .ok (.ifCond .le off, 3)) (hP : ¬ (x ≤ 0)) (kf : W p l e R s m args below meth c H locs cells slots Q (F0 m (pc + 3) lsA rest)) : W p l e R s m args below meth c H locs cells slots Q (F0 m pc lsA (.int x :: rest)) := by
  intro T hT X
  obtain ⟨t, a, b⟩ := kf T hT X
  refine ⟨t, ?_, b⟩
  jvm_step X.here [X.here.top, hexec, hb, hdg, Op.ifCond.holds, hP]
  exact a
theorem lv_icmp_le' {H : Heap} {locs : List Loc} {cells slots : Nat} {lsA : Array Slot} {rest : List Value} {cc : ByteArray} (hexec : p.tables.exec = Jvm.exec) (hb : c.code = cc) {x y : Int32} {off : Int} (hdg : decode cc pc = .ok (.if_icmp .le off, 3)) (hP : ¬ (x ≤ y)) (kf : W p l e R s m args below meth c H locs cells slots Q (F0 m (pc + 3) lsA rest)) : W p l e R s m args below meth c H locs cells slots Q (F0 m pc lsA (.int y :: .int x :: rest)) := by
  intro T hT X
  obtain ⟨t, a, b⟩ := kf T hT X
  refine ⟨t, ?_, b⟩
  jvm_step X.here [X.here.top, hexec, hb, hdg, Op.if_icmp.holds, hP]
  exact a
theorem g_off (hC : xCx cy D Bs E p R s m args meth c mm) {i : Instr} {off : Int} {k : Nat} {pc' : Nat} {ls' : List (Option Value)} {st' st0 : List Value} {S' : xSh} {V' : xV} (h : xoff pc off ls st S V = some (.inl (pc', ls', st', S', V')))
    (hw : ∀ (tgt : Nat), (pc : Int) + off = (tgt : Int) → xG cy D Bs p l e R s m args below meth c Q mm.2.2.1 T0 Z0 tgt ls st S V → xG cy D Bs p l e R s m args below meth c Q mm.2.2.1 T0 Z0 pc ls st0 S V) (kk : xG cy D Bs p l e R s m args below meth c Q mm.2.2.1 T0 Z0 pc' ls' st' S' V') : xG cy D Bs p l e R s m args below meth c Q mm.2.2.1 T0 Z0 pc ls st0 S V := by
  unfold xoff xgo at h
  split at h
  · rename_i h0
    cases h
    exact hw _ (by omega) kk
  · cases h
theorem xnext_ok (hC : xCx cy D Bs E p R s m args meth c mm) (hT : T0 ≤ S.2.1) (hZ : Z0 ≤ S.2.2) {pc' : Nat} {ls' : List (Option Value)} {st' : List Value} {S' : xSh} {V' : xV} (h : xstep E mm pc ls st S V = some (.inl (pc', ls', st', S', V'))) (hrm : S'.2.1 - T0 ≤ R.cells ∧ S'.2.2 - Z0 ≤ R.slots) (kk : xG cy D Bs p l e R s m args below meth c Q mm.2.2.1 T0 Z0 pc' ls' st' S' V') : xG cy D Bs p l e R s m args below meth c Q mm.2.2.1 T0 Z0 pc ls st S V := by
  unfold xstep at h
  cases hd : decode mm.2.1 pc with
  | error x => rw [hd] at h; cases h
  | ok ik =>
  obtain ⟨i, k⟩ := ik
  rw [hd] at h
  dsimp only at h
  cases i
  case iconst n =>
    simp only [xdo, xgo] at h
    split at h
    · rename_i hk
      subst hk
      cases h
      exact fun H locs lsA hP hS hE hl => lv_iconst hC.hx hC.hb hd rfl (kk H locs lsA hP hS hE hl)
    · cases h
  case bipush n =>
    simp only [xdo, xgo] at h
    split at h
    · rename_i hk
      subst hk
      cases h
      exact fun H locs lsA hP hS hE hl => lv_bipush hC.hx hC.hb hd rfl (kk H locs lsA hP hS hE hl)
    · cases h
  case sipush n =>
    simp only [xdo, xgo] at h
    split at h
    · rename_i hk
      subst hk
      cases h
      exact fun H locs lsA hP hS hE hl => lv_sipush hC.hx hC.hb hd rfl (kk H locs lsA hP hS hE hl)
    · cases h
  case lconst n =>
    simp only [xdo, xgo] at h
    split at h
    · rename_i hk
      subst hk
      cases h
      exact fun H locs lsA hP hS hE hl => lv_lconst hC.hx hC.hb hd rfl (kk H locs lsA hP hS hE hl)
    · cases h
  case iload_n j =>
    simp only [xdo, xgo] at h
    split at h
    · rename_i hk
      subst hk
      split at h
      · rename_i x hx
        cases h
        exact fun H locs lsA hP hS hE hl => lv_iload_n hC.hx hC.hb hd rfl (xLo_at hl hx) (kk H locs lsA hP hS hE hl)
      · cases h
    · cases h
  case iload j =>
    simp only [xdo, xgo] at h
    split at h
    · rename_i hk
      subst hk
      split at h
      · rename_i x hx
        cases h
        exact fun H locs lsA hP hS hE hl => lv_iload hC.hx hC.hb hd (xLo_at hl hx) (kk H locs lsA hP hS hE hl)
      · cases h
    · cases h
  case lload_n j =>
    simp only [xdo, xgo] at h
    split at h
    · rename_i hk
      subst hk
      split at h
      · rename_i x hx
        cases h
        exact fun H locs lsA hP hS hE hl => lv_lload_n hC.hx hC.hb hd rfl (xLo_at hl hx) (kk H locs lsA hP hS hE hl)
      · cases h
    · cases h
  case lload j =>
    simp only [xdo, xgo] at h
    split at h
    · rename_i hk
      subst hk
      split at h
      · rename_i x hx
        cases h
        exact fun H locs lsA hP hS hE hl => lv_lload hC.hx hC.hb hd (xLo_at hl hx) (kk H locs lsA hP hS hE hl)
      · cases h
    · cases h
  case aload_n j =>
    simp only [xdo, xgo] at h
    split at h
    · rename_i hk
      subst hk
      split at h
      · rename_i x hx
        cases h
        exact fun H locs lsA hP hS hE hl => lv_aload_n hC.hx hC.hb hd rfl (xLo_at hl hx) (kk H locs lsA hP hS hE hl)
      · cases h
    · cases h
  case aload j =>
    simp only [xdo, xgo] at h
    split at h
    · rename_i hk
      subst hk
      split at h
      · rename_i x hx
        cases h
        exact fun H locs lsA hP hS hE hl => lv_aload hC.hx hC.hb hd (xLo_at hl hx) (kk H locs lsA hP hS hE hl)
      · cases h
    · cases h
  case istore_n j =>
    simp only [xdo, xgo] at h
    split at h
    · rename_i hk
      subst hk
      split at h
      · split at h
        · rename_i hlt
          cases h
          exact fun H locs lsA hP hS hE hl => lv_istore_n hC.hx hC.hb hd rfl hl.2 (by rw [← hl.1]; exact hlt) rfl (fun ls2 h2 => kk H locs ls2 hP hS hE (xLo_st1 hl h2))
        · cases h
      · cases h
    · cases h
  case istore j =>
    simp only [xdo, xgo] at h
    split at h
    · rename_i hk
      subst hk
      split at h
      · split at h
        · rename_i hlt
          cases h
          exact fun H locs lsA hP hS hE hl => lv_istore hC.hx hC.hb hd hl.2 (by rw [← hl.1]; exact hlt) rfl (fun ls2 h2 => kk H locs ls2 hP hS hE (xLo_st1 hl h2))
        · cases h
      · cases h
    · cases h
  case lstore_n j =>
    simp only [xdo, xgo] at h
    split at h
    · rename_i hk
      subst hk
      split at h
      · split at h
        · rename_i hlt
          cases h
          exact fun H locs lsA hP hS hE hl => lv_lstore_n hC.hx hC.hb hd rfl hl.2 (by rw [← hl.1]; exact hlt) rfl (fun ls2 h2 => kk H locs ls2 hP hS hE (xLo_st2 hl h2))
        · cases h
      · cases h
    · cases h
  case lstore j =>
    simp only [xdo, xgo] at h
    split at h
    · rename_i hk
      subst hk
      split at h
      · split at h
        · rename_i hlt
          cases h
          exact fun H locs lsA hP hS hE hl => lv_lstore hC.hx hC.hb hd hl.2 (by rw [← hl.1]; exact hlt) rfl (fun ls2 h2 => kk H locs ls2 hP hS hE (xLo_st2 hl h2))
        · cases h
      · cases h
    · cases h
  case astore_n j =>
    simp only [xdo, xgo] at h
    split at h
    · rename_i hk
      subst hk
      split at h
      · split at h
        · rename_i hlt
          cases h
          exact fun H locs lsA hP hS hE hl => lv_astore_n hC.hx hC.hb hd rfl hl.2 (by rw [← hl.1]; exact hlt) rfl (fun ls2 h2 => kk H locs ls2 hP hS hE (xLo_st1 hl h2))
        · cases h
      · cases h
    · cases h
  case astore j =>
    simp only [xdo, xgo] at h
    split at h
    · rename_i hk
      subst hk
      split at h
      · split at h
        · rename_i hlt
          cases h
          exact fun H locs lsA hP hS hE hl => lv_astore hC.hx hC.hb hd hl.2 (by rw [← hl.1]; exact hlt) rfl (fun ls2 h2 => kk H locs ls2 hP hS hE (xLo_st1 hl h2))
        · cases h
      · cases h
    · cases h
  case iinc j n =>
    simp only [xdo, xgo] at h
    split at h
    · rename_i hk
      subst hk
      split at h
      · rename_i x hx
        split at h
        · rename_i hlt
          cases h
          intro H locs lsA hP hS hE hl
          obtain ⟨q, hq⟩ := List.getElem?_of_mem (xlv_mem.mpr (xlocAt_iff.mp hx))
          exact lv_iinc hC.hx hC.hb hd hl.2 hq rfl (by rw [← hl.1]; exact hlt) rfl (fun ls2 h2 => kk H locs ls2 hP hS hE (xLo_st1 hl h2))
        · cases h
      · cases h
    · cases h
  case iadd =>
    simp only [xdo, xgo] at h
    split at h
    · rename_i hk
      subst hk
      split at h
      · cases h
        exact fun H locs lsA hP hS hE hl => lv_iadd hC.hx hC.hb hd (kk H locs lsA hP hS hE hl)
      · cases h
    · cases h
  case isub =>
    simp only [xdo, xgo] at h
    split at h
    · rename_i hk
      subst hk
      split at h
      · cases h
        exact fun H locs lsA hP hS hE hl => lv_isub hC.hx hC.hb hd (kk H locs lsA hP hS hE hl)
      · cases h
    · cases h
  case imul =>
    simp only [xdo, xgo] at h
    split at h
    · rename_i hk
      subst hk
      split at h
      · cases h
        exact fun H locs lsA hP hS hE hl => lv_imul hC.hx hC.hb hd (kk H locs lsA hP hS hE hl)
      · cases h
    · cases h
  case iand =>
    simp only [xdo, xgo] at h
    split at h
    · rename_i hk
      subst hk
      split at h
      · cases h
        exact fun H locs lsA hP hS hE hl => lv_iand hC.hx hC.hb hd (kk H locs lsA hP hS hE hl)
      · cases h
    · cases h
  case ior =>
    simp only [xdo, xgo] at h
    split at h
    · rename_i hk
      subst hk
      split at h
      · cases h
        exact fun H locs lsA hP hS hE hl => lv_ior hC.hx hC.hb hd (kk H locs lsA hP hS hE hl)
      · cases h
    · cases h
  case ixor =>
    simp only [xdo, xgo] at h
    split at h
    · rename_i hk
      subst hk
      split at h
      · cases h
        exact fun H locs lsA hP hS hE hl => lv_ixor hC.hx hC.hb hd (kk H locs lsA hP hS hE hl)
      · cases h
    · cases h
  case ishl =>
    simp only [xdo, xgo] at h
    split at h
    · rename_i hk
      subst hk
      split at h
      · cases h
        exact fun H locs lsA hP hS hE hl => lv_ishl hC.hx hC.hb hd (kk H locs lsA hP hS hE hl)
      · cases h
    · cases h
  case ishr =>
    simp only [xdo, xgo] at h
    split at h
    · rename_i hk
      subst hk
      split at h
      · cases h
        exact fun H locs lsA hP hS hE hl => lv_ishr hC.hx hC.hb hd (kk H locs lsA hP hS hE hl)
      · cases h
    · cases h
  case land =>
    simp only [xdo, xgo] at h
    split at h
    · rename_i hk
      subst hk
      split at h
      · cases h
        exact fun H locs lsA hP hS hE hl => lv_land hC.hx hC.hb hd (kk H locs lsA hP hS hE hl)
      · cases h
    · cases h
  case lor =>
    simp only [xdo, xgo] at h
    split at h
    · rename_i hk
      subst hk
      split at h
      · cases h
        exact fun H locs lsA hP hS hE hl => lv_lor hC.hx hC.hb hd (kk H locs lsA hP hS hE hl)
      · cases h
    · cases h
  case iushr =>
    simp only [xdo, xgo] at h
    split at h
    · rename_i hk
      subst hk
      split at h
      · cases h
        exact fun H locs lsA hP hS hE hl => lv_iushr hC.hx hC.hb hd rfl (kk H locs lsA hP hS hE hl)
      · cases h
    · cases h
  case lshl =>
    simp only [xdo, xgo] at h
    split at h
    · rename_i hk
      subst hk
      split at h
      · cases h
        exact fun H locs lsA hP hS hE hl => lv_lshl hC.hx hC.hb hd rfl (kk H locs lsA hP hS hE hl)
      · cases h
    · cases h
  case lushr =>
    simp only [xdo, xgo] at h
    split at h
    · rename_i hk
      subst hk
      split at h
      · cases h
        exact fun H locs lsA hP hS hE hl => lv_lushr hC.hx hC.hb hd rfl (kk H locs lsA hP hS hE hl)
      · cases h
    · cases h
  case i2l =>
    simp only [xdo, xgo] at h
    split at h
    · rename_i hk
      subst hk
      split at h
      · cases h
        exact fun H locs lsA hP hS hE hl => lv_i2l hC.hx hC.hb hd rfl (kk H locs lsA hP hS hE hl)
      · cases h
    · cases h
  case l2i =>
    simp only [xdo, xgo] at h
    split at h
    · rename_i hk
      subst hk
      split at h
      · cases h
        exact fun H locs lsA hP hS hE hl => lv_l2i hC.hx hC.hb hd rfl (kk H locs lsA hP hS hE hl)
      · cases h
    · cases h
  case i2c =>
    simp only [xdo, xgo] at h
    split at h
    · rename_i hk
      subst hk
      split at h
      · cases h
        exact fun H locs lsA hP hS hE hl => lv_i2c hC.hx hC.hb hd rfl (kk H locs lsA hP hS hE hl)
      · cases h
    · cases h
  case i2b =>
    simp only [xdo, xgo] at h
    split at h
    · rename_i hk
      subst hk
      split at h
      · cases h
        exact fun H locs lsA hP hS hE hl => lv_i2b hC.hx hC.hb hd rfl (kk H locs lsA hP hS hE hl)
      · cases h
    · cases h
  case lcmp =>
    simp only [xdo, xgo] at h
    split at h
    · rename_i hk
      subst hk
      split at h
      · cases h
        exact fun H locs lsA hP hS hE hl => W.lcmp hC.hx hC.hb hd (kk H locs lsA hP hS hE hl)
      · cases h
    · cases h
  case irem =>
    simp only [xdo, xgo] at h
    split at h
    · rename_i hk
      subst hk
      split at h
      · split at h
        · cases h
        · rename_i hne
          cases h
          exact fun H locs lsA hP hS hE hl => lv_irem hC.hx hC.hb hd hne (kk H locs lsA hP hS hE hl)
      · cases h
    · cases h
  case idiv =>
    simp only [xdo, xgo] at h
    split at h
    · rename_i hk
      subst hk
      split at h
      · split at h
        · cases h
        · rename_i hne
          cases h
          exact fun H locs lsA hP hS hE hl => lv_idiv hC.hx hC.hb hd hne (kk H locs lsA hP hS hE hl)
      · cases h
    · cases h
  case ladd =>
    simp only [xdo, xgo] at h
    split at h
    · rename_i hk
      subst hk
      split at h
      · cases h
        exact fun H locs lsA hP hS hE hl => lv_ladd hC.hx hC.hb hd (kk H locs lsA hP hS hE hl)
      · cases h
    · cases h
  case lmul =>
    simp only [xdo, xgo] at h
    split at h
    · rename_i hk
      subst hk
      split at h
      · cases h
        exact fun H locs lsA hP hS hE hl => lv_lmul hC.hx hC.hb hd (kk H locs lsA hP hS hE hl)
      · cases h
    · cases h
  case dup =>
    simp only [xdo, xgo] at h
    split at h
    · rename_i hk
      subst hk
      split at h
      · split at h
        · rename_i hc
          cases h
          exact fun H locs lsA hP hS hE hl => lv_dup hC.hx hC.hb hd hc (kk H locs lsA hP hS hE hl)
        · cases h
      · cases h
    · cases h
  case pop =>
    simp only [xdo, xgo] at h
    split at h
    · rename_i hk
      subst hk
      split at h
      · split at h
        · rename_i hc
          cases h
          exact fun H locs lsA hP hS hE hl => lv_pop hC.hx hC.hb hd hc (kk H locs lsA hP hS hE hl)
        · cases h
      · cases h
    · cases h
  case dup2 =>
    simp only [xdo, xgo] at h
    split at h
    · rename_i hk
      subst hk
      split at h
      · split at h
        · rename_i hc
          cases h
          exact fun H locs lsA hP hS hE hl => lv_dup2_11 hC.hx hC.hb hd hc.1 hc.2 (kk H locs lsA hP hS hE hl)
        · cases h
      · cases h
    · cases h
  case ifCond cc off =>
    simp only [xdo, xgo] at h
    split at h
    · rename_i hk
      subst hk
      split at h
      · cases cc
        case eq =>
          simp only [xcb, decide_eq_true_eq] at h
          split at h
          · rename_i hq
            refine g_off (i := .nop) (k := 0) hC h (fun tgt ht kt => ?_) kk
            intro H locs lsA hP hS hE hl
            exact lv_if_eq hC.hx hC.hb hd ht (fun _ => kt H locs lsA hP hS hE hl) (fun hn => absurd hq hn)
          · rename_i hq
            cases h
            intro H locs lsA hP hS hE hl
            exact lv_if_eq' hC.hx hC.hb hd hq (kk H locs lsA hP hS hE hl)
        case ne =>
          simp only [xcb, decide_eq_true_eq] at h
          split at h
          · rename_i hq
            refine g_off (i := .nop) (k := 0) hC h (fun tgt ht kt => ?_) kk
            intro H locs lsA hP hS hE hl
            exact lv_if_ne hC.hx hC.hb hd ht (fun _ => kt H locs lsA hP hS hE hl) (fun hn => absurd hn hq)
          · rename_i hq
            cases h
            intro H locs lsA hP hS hE hl
            exact lv_if_ne' hC.hx hC.hb hd (Classical.not_not.mp hq) (kk H locs lsA hP hS hE hl)
        case lt =>
          simp only [xcb, decide_eq_true_eq] at h
          split at h
          · rename_i hq
            refine g_off (i := .nop) (k := 0) hC h (fun tgt ht kt => ?_) kk
            intro H locs lsA hP hS hE hl
            exact lv_if_lt hC.hx hC.hb hd ht (fun _ => kt H locs lsA hP hS hE hl) (fun hn => absurd hq hn)
          · rename_i hq
            cases h
            intro H locs lsA hP hS hE hl
            exact lv_if_lt' hC.hx hC.hb hd hq (kk H locs lsA hP hS hE hl)
        case ge =>
          simp only [xcb, decide_eq_true_eq] at h
          split at h
          · rename_i hq
            refine g_off (i := .nop) (k := 0) hC h (fun tgt ht kt => ?_) kk
            intro H locs lsA hP hS hE hl
            exact lv_if_ge hC.hx hC.hb hd ht (fun _ => kt H locs lsA hP hS hE hl) (fun hn => absurd hq hn)
          · rename_i hq
            cases h
            intro H locs lsA hP hS hE hl
            exact lv_if_ge' hC.hx hC.hb hd hq (kk H locs lsA hP hS hE hl)
        case gt =>
          simp only [xcb, decide_eq_true_eq] at h
          split at h
          · rename_i hq
            refine g_off (i := .nop) (k := 0) hC h (fun tgt ht kt => ?_) kk
            intro H locs lsA hP hS hE hl
            exact lv_if_gt hC.hx hC.hb hd ht (fun _ => kt H locs lsA hP hS hE hl) (fun hn => absurd hq hn)
          · rename_i hq
            cases h
            intro H locs lsA hP hS hE hl
            exact lv_if_gt' hC.hx hC.hb hd hq (kk H locs lsA hP hS hE hl)
        case le =>
          simp only [xcb, decide_eq_true_eq] at h
          split at h
          · rename_i hq
            refine g_off (i := .nop) (k := 0) hC h (fun tgt ht kt => ?_) kk
            intro H locs lsA hP hS hE hl
            exact lv_if_le hC.hx hC.hb hd ht (fun _ => kt H locs lsA hP hS hE hl) (fun hn => absurd hq hn)
          · rename_i hq
            cases h
            intro H locs lsA hP hS hE hl
            exact lv_if_le' hC.hx hC.hb hd hq (kk H locs lsA hP hS hE hl)
      · cases h
    · cases h
  case if_icmp cc off =>
    simp only [xdo, xgo] at h
    split at h
    · rename_i hk
      subst hk
      split at h
      · cases cc
        case eq =>
          simp only [xcb, decide_eq_true_eq] at h
          split at h
          · rename_i hq
            refine g_off (i := .nop) (k := 0) hC h (fun tgt ht kt => ?_) kk
            intro H locs lsA hP hS hE hl
            exact lv_icmp_eq hC.hx hC.hb hd ht (fun _ => kt H locs lsA hP hS hE hl) (fun hn => absurd hq hn)
          · rename_i hq
            cases h
            intro H locs lsA hP hS hE hl
            exact lv_icmp_eq' hC.hx hC.hb hd hq (kk H locs lsA hP hS hE hl)
        case ne =>
          simp only [xcb, decide_eq_true_eq] at h
          split at h
          · rename_i hq
            refine g_off (i := .nop) (k := 0) hC h (fun tgt ht kt => ?_) kk
            intro H locs lsA hP hS hE hl
            exact lv_icmp_ne hC.hx hC.hb hd ht (fun _ => kt H locs lsA hP hS hE hl) (fun hn => absurd hn hq)
          · rename_i hq
            cases h
            intro H locs lsA hP hS hE hl
            exact lv_icmp_ne' hC.hx hC.hb hd (Classical.not_not.mp hq) (kk H locs lsA hP hS hE hl)
        case lt =>
          simp only [xcb, decide_eq_true_eq] at h
          split at h
          · rename_i hq
            refine g_off (i := .nop) (k := 0) hC h (fun tgt ht kt => ?_) kk
            intro H locs lsA hP hS hE hl
            exact lv_icmp_lt hC.hx hC.hb hd ht (fun _ => kt H locs lsA hP hS hE hl) (fun hn => absurd hq hn)
          · rename_i hq
            cases h
            intro H locs lsA hP hS hE hl
            exact lv_icmp_lt' hC.hx hC.hb hd hq (kk H locs lsA hP hS hE hl)
        case ge =>
          simp only [xcb, decide_eq_true_eq] at h
          split at h
          · rename_i hq
            refine g_off (i := .nop) (k := 0) hC h (fun tgt ht kt => ?_) kk
            intro H locs lsA hP hS hE hl
            exact lv_icmp_ge hC.hx hC.hb hd ht (fun _ => kt H locs lsA hP hS hE hl) (fun hn => absurd hq hn)
          · rename_i hq
            cases h
            intro H locs lsA hP hS hE hl
            exact lv_icmp_ge' hC.hx hC.hb hd hq (kk H locs lsA hP hS hE hl)
        case gt =>
          simp only [xcb, decide_eq_true_eq] at h
          split at h
          · rename_i hq
            refine g_off (i := .nop) (k := 0) hC h (fun tgt ht kt => ?_) kk
            intro H locs lsA hP hS hE hl
            exact lv_icmp_gt hC.hx hC.hb hd ht (fun _ => kt H locs lsA hP hS hE hl) (fun hn => absurd hq hn)
          · rename_i hq
            cases h
            intro H locs lsA hP hS hE hl
            exact lv_icmp_gt' hC.hx hC.hb hd hq (kk H locs lsA hP hS hE hl)
        case le =>
          simp only [xcb, decide_eq_true_eq] at h
          split at h
          · rename_i hq
            refine g_off (i := .nop) (k := 0) hC h (fun tgt ht kt => ?_) kk
            intro H locs lsA hP hS hE hl
            exact lv_icmp_le hC.hx hC.hb hd ht (fun _ => kt H locs lsA hP hS hE hl) (fun hn => absurd hq hn)
          · rename_i hq
            cases h
            intro H locs lsA hP hS hE hl
            exact lv_icmp_le' hC.hx hC.hb hd hq (kk H locs lsA hP hS hE hl)
      · cases h
    · cases h
  case goto off =>
    simp only [xdo, xgo] at h
    split at h
    · rename_i hk
      subst hk
      exact g_off (i := .nop) (k := 0) hC h (fun tgt ht kt H locs lsA hP hS hE hl => lv_goto hC.hx hC.hb hd ht (kt H locs lsA hP hS hE hl)) kk
    · cases h
  case tableswitch dd lo hi offs =>
    simp only [xdo, xgo] at h
    split at h
    · split at h
      · rename_i hq
        exact g_off (i := .nop) (k := 0) hC h (fun tgt ht kt H locs lsA hP hS hE hl => lv_tableOut hC.hx hC.hb hd hq ht (kt H locs lsA hP hS hE hl)) kk
      · rename_i hq
        split at h
        · rename_i off ho
          exact g_off (i := .nop) (k := 0) hC h (fun tgt ht kt H locs lsA hP hS hE hl => lv_tableIn hC.hx hC.hb hd (fun z => hq (Or.inl z)) (fun z => hq (Or.inr z)) ho ht (kt H locs lsA hP hS hE hl)) kk
        · cases h
    · cases h
  case lookupswitch dd ps =>
    simp only [xdo, xgo] at h
    split at h
    · split at h
      · rename_i hq
        exact g_off (i := .nop) (k := 0) hC h (fun tgt ht kt H locs lsA hP hS hE hl => lv_lookup hC.hx hC.hb hd hq rfl ht (kt H locs lsA hP hS hE hl)) kk
      · cases h
    · cases h
  case ldc x =>
    simp only [xdo, xgo] at h
    split at h
    · rename_i hk
      subst hk
      split at h
      · rename_i v hv
        cases h
        exact fun H locs lsA hP hS hE hl => lv_ldc hC.hx hC.hb hC.hown (hC.hts _ (xIt_ok _ (xassoc_mem hv))) hd (kk H locs lsA hP hS hE hl)
      · cases h
    · cases h
  case ldc_w x =>
    simp only [xdo, xgo] at h
    split at h
    · rename_i hk
      subst hk
      split at h
      · rename_i v hv
        cases h
        exact fun H locs lsA hP hS hE hl => lv_ldcw hC.hx hC.hb hC.hown (hC.hts _ (xIt_ok _ (xassoc_mem hv))) hd (kk H locs lsA hP hS hE hl)
      · cases h
    · cases h
  case ldc2_w x =>
    simp only [xdo, xgo] at h
    split at h
    · rename_i hk
      subst hk
      split at h
      · rename_i v hv
        cases h
        exact fun H locs lsA hP hS hE hl => lv_ldc2 hC.hx hC.hb hC.hown (hC.hts _ (xJt_ok _ (xassoc_mem hv))) hd (kk H locs lsA hP hS hE hl)
      · cases h
    · cases h
  case getfield x =>
    simp only [xdo, xgo] at h
    split at h
    · rename_i hk
      subst hk
      split at h
      · split at h
        · rename_i kd j hf
          split at h
          · rename_i hkd
            cases h
            exact g_getfield hC hf hkd hd kk
          · cases h
        · cases h
      · cases h
    · cases h
  case putfield x =>
    simp only [xdo, xgo] at h
    split at h
    · rename_i hk
      subst hk
      split at h
      · rename_i kd j hf
        split at h
        · split at h
          · rename_i hq
            cases h
            exact g_putI hC hf hq.1 hq.2.1 hq.2.2.1 hq.2.2.2 hd kk
          · cases h
        · split at h
          · rename_i hq
            cases h
            exact g_putR hC hf hq.1 hq.2.1 hq.2.2.1 hq.2.2.2.1 hq.2.2.2.2 hd kk
          · cases h
        · cases h
      · cases h
    · cases h
  case getstatic x =>
    simp only [xdo, xgo] at h
    split at h
    · rename_i hk
      subst hk
      split at h
      · rename_i hf
        cases h
        exact g_static hC hf (Or.inl ⟨rfl, rfl⟩) hd kk
      · rename_i hf
        cases h
        exact g_static hC hf (Or.inr ⟨rfl, rfl⟩) hd kk
      · cases h
    · cases h
  case iaload =>
    simp only [xdo, xgo] at h
    split at h
    · rename_i hk
      subst hk
      split at h
      · split at h
        · rename_i hq
          cases h
          exact g_iaload hC hq.1 hq.2 hd kk
        · cases h
      · cases h
    · cases h
  case baload =>
    simp only [xdo, xgo] at h
    split at h
    · rename_i hk
      subst hk
      split at h
      · split at h
        · rename_i hq
          cases h
          exact g_baload hC hq.1 hq.2 hd kk
        · cases h
      · cases h
    · cases h
  case caload =>
    simp only [xdo, xgo] at h
    split at h
    · rename_i hk
      subst hk
      split at h
      · split at h
        · rename_i hq
          cases h
          exact g_caload hC hq.1 hq.2 hd kk
        · cases h
      · cases h
    · cases h
  case aaload =>
    simp only [xdo, xgo] at h
    split at h
    · rename_i hk
      subst hk
      split at h
      · split at h
        · rename_i hq
          cases h
          exact g_aaload hC hq.1 hq.2 hd kk
        · cases h
      · cases h
    · cases h
  case iastore =>
    simp only [xdo, xgo] at h
    split at h
    · rename_i hk
      subst hk
      split at h
      · split at h
        · rename_i hq
          cases h
          exact g_iastore hC hq.1 hq.2 hd kk
        · cases h
      · cases h
    · cases h
  case bastore =>
    simp only [xdo, xgo] at h
    split at h
    · rename_i hk
      subst hk
      split at h
      · split at h
        · rename_i hq
          cases h
          exact g_bastore hC hq.1 hq.2 hd kk
        · cases h
      · cases h
    · cases h
  case castore =>
    simp only [xdo, xgo] at h
    split at h
    · rename_i hk
      subst hk
      split at h
      · split at h
        · rename_i hq
          cases h
          exact g_castore hC hq.1 hq.2 hd kk
        · cases h
      · cases h
    · cases h
  case aastore =>
    simp only [xdo, xgo] at h
    split at h
    · rename_i hk
      subst hk
      split at h
      · split at h
        · rename_i hq
          cases h
          exact g_aastore hC hq.1 hq.2 hd kk
        · cases h
      · cases h
    · cases h
  case arraylength =>
    simp only [xdo, xgo] at h
    split at h
    · rename_i hk
      subst hk
      split at h
      · split at h
        · rename_i hq
          cases h
          exact g_alen hC hq hd kk
        · cases h
      · cases h
    · cases h
  case newarray t =>
    simp only [xdo, xgo] at h
    split at h
    · rename_i hk
      subst hk
      split at h
      · split at h
        · cases h
        · rename_i hn
          split at h
          · rename_i hn2
            split at h
            · cases h
              exact g_newarr hC hT hZ (Or.inl ⟨rfl, rfl⟩) hn hn2 hrm hd kk
            · cases h
              exact g_newarr hC hT hZ (Or.inr (Or.inl ⟨rfl, rfl⟩)) hn hn2 hrm hd kk
            · cases h
              exact g_newarr hC hT hZ (Or.inr (Or.inr ⟨rfl, rfl⟩)) hn hn2 hrm hd kk
            · cases h
          · cases h
      · cases h
    · cases h
  case anewarray x =>
    simp only [xdo, xgo] at h
    split at h
    · rename_i hk
      subst hk
      split at h
      · split at h
        · cases h
        · rename_i hn
          split at h
          · rename_i hn2
            split at h
            · rename_i hf
              cases h
              exact g_anewarr hC hT hZ hf (Or.inl ⟨rfl, rfl⟩) hn hn2 hrm hd kk
            · rename_i hf
              cases h
              exact g_anewarr hC hT hZ hf (Or.inr ⟨rfl, rfl⟩) hn hn2 hrm hd kk
            · cases h
          · cases h
      · cases h
    · cases h
  case new x =>
    simp only [xdo, xgo] at h
    split at h
    · rename_i hk
      subst hk
      split at h
      · rename_i ci hf
        cases h
        exact g_new hC hT hZ hf hrm hd kk
      · cases h
    · cases h
  case invokestatic x =>
    simp only [xdo, xgo] at h
    split at h
    · rename_i hk
      subst hk
      split at h
      · exfalso; unfold xcall at h; split at h <;> cases h
      · exfalso; unfold xcall at h; split at h <;> cases h
      · cases h
      · split at h
        · rename_i hf
          split at h
          · split at h
            · rename_i hq
              cases h
              exact g_max hC hf hq.1 hq.2 hrm hd kk
            · cases h
          · cases h
        · cases h
        · split at h
          · rename_i hf
            split at h
            · split at h
              · rename_i hq
                cases h
                exact g_copy hC hf hq.1 hq.2.1 hq.2.2.1.1 hq.2.2.1.2.1 hq.2.2.1.2.2 hq.2.2.2.1 hq.2.2.2.2.1 hq.2.2.2.2.2.1 hq.2.2.2.2.2.2 hd kk
              · cases h
            · cases h
          · cases h
    · cases h
  case invokespecial x =>
    simp only [xdo, xgo] at h
    split at h
    · rename_i hk
      subst hk
      split at h
      · exfalso
        split at h
        · unfold xcall at h; split at h <;> cases h
        · cases h
      · exfalso
        split at h
        · unfold xcall at h; split at h <;> cases h
        · cases h
      · cases h
      · split at h
        · rename_i hf
          split at h
          · split at h
            · rename_i hq
              cases h
              exact g_objInit hC hf hq.1 hq.2 hd kk
            · cases h
          · cases h
        · cases h
    · cases h
  case invokevirtual x =>
    simp only [xdo, xgo] at h
    exfalso
    split at h
    · split at h
      · split at h
        · split at h
          · unfold xcall at h; split at h <;> cases h
          · cases h
        · cases h
      · cases h
    · cases h
  case ireturn =>
    simp only [xdo, xgo] at h
    exfalso
    repeat' (split at h)
    all_goals cases h
  case lreturn =>
    simp only [xdo, xgo] at h
    exfalso
    repeat' (split at h)
    all_goals cases h
  case areturn =>
    simp only [xdo, xgo] at h
    exfalso
    repeat' (split at h)
    all_goals cases h
  case return_ =>
    simp only [xdo, xgo] at h
    exfalso
    repeat' (split at h)
    all_goals cases h
  all_goals (simp only [xdo] at h; cases h)
end XDI
