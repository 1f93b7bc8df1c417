/-! ===== what the pure machine computes, the machine does ===== -/
def xA (Bs : Nat) : Nat → Prop := fun q => Bs ≤ q
def xtys (cy : Nat → ClassId) : List (ClassId × FieldType) := [(cy 7, .int), (cy 8, .char), (cy 9, .boolean), (cy 10, .object RX0), (cy 11, .object RX2)]
def xfv (kd : Nat) (r : Nat → Option Nat) (v : Nat → Int32) : Nat → Value := fun k => if xisR kd k = true then va_rf (r k) else .int (v k)
def xat (cy : Nat → ClassId) (D : va_G) (S : xSh) (V : xV) (a : Nat) (H : Heap) : Prop :=
  (1 ≤ xkd S a → xkd S a ≤ 6 → t_OB a (D.1 (xkd S a - 1)) (xN (xkd S a)) (D.2 (xkd S a - 1)) H (xfv (xkd S a) (xrf S a) (V a))) ∧
  (7 ≤ xkd S a → xkd S a ≤ 9 → H[a]? = some (arrV (cy (xkd S a)) (xln S a) (fun j => .int (V a j)))) ∧
  (10 ≤ xkd S a → xkd S a ≤ 11 → H[a]? = some (arrV (cy (xkd S a)) (xln S a) (fun j => va_rf (xrf S a j))))
/-- the own cells -/
def xP (cy : Nat → ClassId) (D : va_G) (Bs : Nat) (S : xSh) (V : xV) (H : Heap) : Prop :=
  H.size = S.2.1 ∧ ∀ a : Nat, (1 ≤ xkd S a → xkd S a ≤ 11 → Bs ≤ a ∧ a < S.2.1) ∧ xat cy D S V a H
/-- the cells that were there before: read only -/
def xEx (Bs : Nat) (S : xSh) (V : xV) (U : State) (H : Heap) : Prop := ∀ a : Nat,
  (xkd S a = 14 → va_T .int a (xln S a) (fun j => .int (V a j)) (xA Bs) U H) ∧
  (xkd S a = 12 → va_T .byte a (xln S a) (fun j => .int (V a j)) (xA Bs) U H) ∧
  (xkd S a = 13 → va_O "java/lang/String" a (xA Bs) U H ∧ va_OF "java/lang/String" "value" "[B" (va_rf (xrf S a 0)) a (xA Bs) U H ∧ va_OF "java/lang/String" "coder" "B" (.int (V a 1)) a (xA Bs) U H)
/-- statics, the text, the links of nest mates -/
def xSo (Bs : Nat) (E : Nat × Nat × Nat) (U : State) (H : Heap) : Prop :=
  va_Z "TurnSlots" "LEAST_N" "[I" (.ref E.1) (xA Bs) U H ∧ va_Z "TurnSlots" "GREATEST_N" "[I" (.ref E.2.1) (xA Bs) U H ∧ True ∧
  True ∧ va_AO RX0 U ∧ va_AO RX2 U ∧ ∀ w ∈ xNw, va_Nw w U
theorem xEx.moved {Bs : Nat} {S : xSh} {V : xV} {u U : State} {H : Heap} (hvm : u.vm.Alike U.vm) (h : xEx Bs S V u H) : xEx Bs S V U H := fun a =>
  ⟨fun k => ((h a).1 k).moved hvm, fun k => ((h a).2.1 k).moved hvm, fun k => ⟨((h a).2.2 k).1.moved hvm, va_OF.moved hvm ((h a).2.2 k).2.1, va_OF.moved hvm ((h a).2.2 k).2.2⟩⟩
theorem xEx.kept {Bs : Nat} {S : xSh} {V : xV} {U : State} {H H1 : Heap} (h : xEx Bs S V U H) (hq : ∀ a : Nat, a < H.size → ¬ xA Bs a → H1[a]? = H[a]?) : xEx Bs S V U H1 := fun a =>
  ⟨fun k => ((h a).1 k).kept hq, fun k => ((h a).2.1 k).kept hq, fun k => ⟨((h a).2.2 k).1.kept hq, ((h a).2.2 k).2.1.kept hq, ((h a).2.2 k).2.2.kept hq⟩⟩
theorem xSo.same {Bs : Nat} {E : Nat × Nat × Nat} {u U : State} {H : Heap} (hvm : U.vm = u.vm) (h : xSo Bs E u H) : xSo Bs E U H := by
  have ha : u.vm.Alike U.vm := by rw [hvm]; exact Vm.Alike.refl u.vm
  obtain ⟨h1, h2, h3, h4, h5, h6, h7⟩ := h
  refine ⟨h1.moved ha, h2.moved ha, h3, h4, h5.moved ha, h6.moved ha, fun w hw => ?_⟩
  rcases xNw_kind w hw with ⟨_, _, _, _, rfl⟩ | ⟨_, _, _, _, _, _, rfl⟩
  · exact va_Nw.same rfl hvm.symm (h7 _ hw)
  · exact va_Nw.same rfl hvm.symm (h7 _ hw)
theorem xSo.warm {Bs : Nat} {E : Nat × Nat × Nat} {s U : State} {H : Heap} (hW : s.WarmedH U.vm) (h : xSo Bs E s H) : xSo Bs E U H := by
  obtain ⟨h1, h2, h3, h4, h5, h6, h7⟩ := h
  refine ⟨h1.moved hW.alike, h2.moved hW.alike, h3, h4, h5.moved hW.alike, h6.moved hW.alike, fun w hw => ?_⟩
  rcases xNw_kind w hw with ⟨_, _, _, _, rfl⟩ | ⟨_, _, _, _, _, _, rfl⟩
  · exact va_Nw.warmM hW (h7 _ hw)
  · exact va_Nw.warmF hW (h7 _ hw)
theorem xSo.kept {Bs : Nat} {E : Nat × Nat × Nat} {U : State} {H H1 : Heap} (h : xSo Bs E U H) (hq : ∀ a : Nat, a < H.size → ¬ xA Bs a → H1[a]? = H[a]?) : xSo Bs E U H1 :=
  ⟨h.1.kept hq, h.2.1.kept hq, h.2.2.1, h.2.2.2⟩
/-- the whole picture at a state -/
def xPic (cy : Nat → ClassId) (D : va_G) (Bs : Nat) (E : Nat × Nat × Nat) (S : xSh) (V : xV) (U : State) : Prop :=
  xP cy D Bs S V U.heap ∧ va_K D vwCl (xtys cy) U ∧ xEx Bs S V U U.heap ∧ xSo Bs E U U.heap ∧ Bs ≤ U.heap.size
def xQ (cy : Nat → ClassId) (D : va_G) (Bs : Nat) (E : Nat × Nat × Nat) (r : Option Value × xSh × xV) : Array Value → State → Outcome → State → Prop := fun _ st oc t =>
  oc = .returned r.1 ∧ xPic cy D Bs E r.2.1 r.2.2 t ∧ va_F (xA Bs) st t
def xrm (h mc ms : Nat) : Room := { frames := h, cells := mc, slots := ms, locals := 34 * h }
def xMet (l : Launch) (cy : Nat → ClassId) (D : va_G) (Bs : Nat) (E : Nat × Nat × Nat) (y : xM) (as : List Value) (S : xSh) (V : xV) (r : Option Value × xSh × xV) : Prop :=
  Met l y.1 (xwsOf y) (xrm (xht y) (r.2.1.2.1 - S.2.1) (r.2.1.2.2 - S.2.2)) (va_Pc as (xPic cy D Bs E S V)) (xQ cy D Bs E r) (r.2.1.2.1 - S.2.1) (r.2.1.2.2 - S.2.2) (xA Bs)
/-! the locals -/
def xlv (ls : List (Option Value)) : List (Nat × Value) := (List.range ls.length).filterMap (fun i => (xlocAt ls i).map (fun v => (i, v)))
theorem xlocAt_iff {ls : List (Option Value)} {i : Nat} {v : Value} : xlocAt ls i = some v ↔ ls[i]? = some (some v) := by
  unfold xlocAt
  cases h : ls[i]? with
  | none => simp
  | some o => cases o <;> simp
theorem xlv_mem {ls : List (Option Value)} {i : Nat} {v : Value} : (i, v) ∈ xlv ls ↔ ls[i]? = some (some v) := by
  unfold xlv
  rw [List.mem_filterMap]
  constructor
  · rintro ⟨j, -, h⟩
    cases hv : xlocAt ls j with
    | none => rw [hv] at h; cases h
    | some w =>
      rw [hv] at h
      cases h
      exact xlocAt_iff.mp hv
  · intro h
    refine ⟨i, List.mem_range.mpr ?_, by rw [xlocAt_iff.mpr h]; rfl⟩
    exact (List.getElem?_eq_some_iff.mp h).1
def xLo (lsA : Array Slot) (n : Nat) (ls : List (Option Value)) : Prop := ls.length = n ∧ lv_has lsA n (xlv ls)
theorem xLo_at {lsA : Array Slot} {n : Nat} {ls : List (Option Value)} (h : xLo lsA n ls) {i : Nat} {v : Value} (hv : xlocAt ls i = some v) : lsA[i]? = some (.val v) := h.2.2.2 (i, v) (xlv_mem.mpr (xlocAt_iff.mp hv))
theorem xclr_none {ls : List (Option Value)} {j : Nat} (h : xlocAt ls j = none) : xclr ls (j + 1) = ls := by
  show (match xlocAt ls j with | some v => if v.category = 2 then ls.set j none else ls | none => ls) = ls
  rw [h]
theorem xclr_some {ls : List (Option Value)} {j : Nat} {v : Value} (h : xlocAt ls j = some v) : xclr ls (j + 1) = if v.category = 2 then ls.set j none else ls := by
  show (match xlocAt ls j with | some v => if v.category = 2 then ls.set j none else ls | none => ls) = _
  rw [h]
theorem xclr_len (ls : List (Option Value)) (i : Nat) : (xclr ls i).length = ls.length := by
  cases i with
  | zero => rfl
  | succ j =>
    cases hv : xlocAt ls j with
    | none => rw [xclr_none hv]
    | some v =>
      rw [xclr_some hv]
      split <;> simp
theorem xclr_at {ls : List (Option Value)} {i j : Nat} {w : Value} (h : (xclr ls i)[j]? = some (some w)) : ls[j]? = some (some w) ∧ (j + 1 = i → ¬ w.category = 2) := by
  cases i with
  | zero => exact ⟨h, fun e => by omega⟩
  | succ k =>
    cases hk : xlocAt ls k with
    | none =>
      rw [xclr_none hk] at h
      refine ⟨h, fun e => ?_⟩
      have e2 : j = k := by omega
      subst e2
      have h2 : ls[j]? = some (some w) := h
      rw [xlocAt_iff.mpr h2] at hk
      cases hk
    | some v =>
      rw [xclr_some hk] at h
      have h' : (if v.category = 2 then ls.set k none else ls)[j]? = some (some w) := h
      by_cases hc : v.category = 2
      · rw [if_pos hc] at h'
        by_cases hj : k = j
        · subst hj
          rw [List.getElem?_set_self'] at h'
          cases hq : ls[k]? with
          | none => rw [hq] at h'; cases h'
          | some o => rw [hq] at h'; cases h'
        · rw [List.getElem?_set_ne hj] at h'
          exact ⟨h', fun e => absurd (by omega) hj⟩
      · rw [if_neg hc] at h'
        refine ⟨h', fun e => ?_⟩
        have e2 : j = k := by omega
        subst e2
        rw [xlocAt_iff.mpr h'] at hk
        cases hk
        exact hc
theorem xLo_st1 {lsA ls' : Array Slot} {n i : Nat} {ls : List (Option Value)} {v : Value} (h : xLo lsA n ls) (h' : lv_has ls' n ((i, v) :: (xlv ls).filter (fun q => !(q.1 == i) && !(q.1 + 1 == i && q.2.category == 2)))) : xLo ls' n (xst1 ls i v) := by
  refine ⟨by unfold xst1; rw [List.length_set, xclr_len]; exact h.1, h'.1, h'.2.1, fun q hq => h'.2.2 q ?_⟩
  obtain ⟨j, w⟩ := q
  have h1 := xlv_mem.mp hq
  unfold xst1 at h1
  by_cases hj : i = j
  · subst hj
    rw [List.getElem?_set_self'] at h1
    cases hq2 : (xclr ls i)[i]? with
    | none => rw [hq2] at h1; cases h1
    | some o =>
      rw [hq2] at h1
      cases h1
      exact List.mem_cons_self
  · rw [List.getElem?_set_ne hj] at h1
    obtain ⟨h2, h3⟩ := xclr_at h1
    refine List.mem_cons_of_mem _ (List.mem_filter.mpr ⟨xlv_mem.mpr h2, ?_⟩)
    by_cases hc : j + 1 = i
    · have := h3 hc
      simp [Ne.symm hj, this]
    · simp [Ne.symm hj, hc]
theorem xLo_st2 {lsA ls' : Array Slot} {n i : Nat} {ls : List (Option Value)} {v : Value} (h : xLo lsA n ls) (h' : lv_has ls' n ((i, v) :: (xlv ls).filter (fun q => !(q.1 == i) && (!(q.1 == i + 1) && !(q.1 + 1 == i && q.2.category == 2))))) : xLo ls' n (xst2 ls i v) := by
  refine ⟨by unfold xst2; rw [List.length_set, List.length_set, xclr_len]; exact h.1, h'.1, h'.2.1, fun q hq => h'.2.2 q ?_⟩
  obtain ⟨j, w⟩ := q
  have h1 := xlv_mem.mp hq
  unfold xst2 at h1
  by_cases hj1 : i + 1 = j
  · subst hj1
    rw [List.getElem?_set_self'] at h1
    cases hq2 : ((xclr ls i).set i (some v))[i + 1]? with
    | none => rw [hq2] at h1; cases h1
    | some o => rw [hq2] at h1; cases h1
  · rw [List.getElem?_set_ne hj1] at h1
    by_cases hj : i = j
    · subst hj
      rw [List.getElem?_set_self'] at h1
      cases hq2 : (xclr ls i)[i]? with
      | none => rw [hq2] at h1; cases h1
      | some o =>
        rw [hq2] at h1
        cases h1
        exact List.mem_cons_self
    · rw [List.getElem?_set_ne hj] at h1
      obtain ⟨h2, h3⟩ := xclr_at h1
      refine List.mem_cons_of_mem _ (List.mem_filter.mpr ⟨xlv_mem.mpr h2, ?_⟩)
      by_cases hc : j + 1 = i
      · have := h3 hc
        simp [Ne.symm hj, Ne.symm hj1, this]
      · simp [Ne.symm hj, Ne.symm hj1, hc]
theorem xargs_len (vs : List Value) : (xargs vs).length = (lg_sl vs).length := by
  induction vs with
  | nil => rfl
  | cons v vs ih =>
    unfold xargs lg_sl
    rw [List.flatMap_cons]
    by_cases h : v.category = 2
    · rw [if_pos h, if_pos h]; simp only [List.length_cons, List.length_append, ih, List.length_nil, lg_sl]; omega
    · rw [if_neg h, if_neg h]; simp only [List.length_cons, List.length_append, ih, List.length_nil, lg_sl]; omega
theorem xargs_at : ∀ (vs : List Value) (b i : Nat) (v : Value), (xargs vs)[i]? = some (some v) → (b + i, v) ∈ lv_args b vs := by
  intro vs
  induction vs with
  | nil => intro b i v h; simp [xargs] at h
  | cons w vs ih =>
    intro b i v h
    unfold xargs at h
    unfold lv_args
    by_cases hc : w.category = 2
    · rw [if_pos hc] at h
      rw [if_pos hc]
      match i, h with
      | 0, h => simp at h; subst h; exact List.mem_cons_self
      | 1, h => simp at h
      | i + 2, h =>
        have h2 : (xargs vs)[i]? = some (some v) := by simpa using h
        have := ih (b + 2) i v h2
        rw [show b + (i + 2) = b + 2 + i by omega]
        exact List.mem_cons_of_mem _ this
    · rw [if_neg hc] at h
      rw [if_neg hc]
      match i, h with
      | 0, h => simp at h; subst h; exact List.mem_cons_self
      | i + 1, h =>
        have h2 : (xargs vs)[i]? = some (some v) := by simpa using h
        have := ih (b + 1) i v h2
        rw [show b + (i + 1) = b + 1 + i by omega]
        exact List.mem_cons_of_mem _ this
theorem xLo_entry (vs : List Value) {n : Nat} (h : (xargs vs).length ≤ n) : xLo ((lg_sl vs ++ List.replicate (n - (lg_sl vs).length) Slot.unset).toArray) n (xlocs n vs) := by
  have hl := lv_entry vs (n := n) (by rw [← xargs_len]; exact h)
  refine ⟨by unfold xlocs; rw [List.length_append, List.length_replicate]; omega, hl.1, hl.2.1, fun q hq => hl.2.2 q ?_⟩
  obtain ⟨j, w⟩ := q
  have h1 := xlv_mem.mp hq
  unfold xlocs at h1
  by_cases hj : j < (xargs vs).length
  · rw [List.getElem?_append_left hj] at h1
    have := xargs_at vs 0 j w h1
    rwa [Nat.zero_add] at this
  · rw [List.getElem?_append_right (by omega), List.getElem?_replicate] at h1
    split at h1
    · cases h1
    · cases h1
