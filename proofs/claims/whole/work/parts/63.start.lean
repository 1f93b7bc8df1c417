/-! ===== the law's start: what the Statement gives of it, as cells of the pure machine ===== -/
section STA
variable {args : Array Value} {s : State}
theorem w_arr {tm : Term} {ty : FieldType} {N : Nat} {f : Nat → Int32} {A : Nat → Prop} (hN : N < 2 ^ 31) (harr : (Cond.arrayOf tm ty).before args s = true) (hlen : (Cond.eq (.length tm) (.int (Int32.ofNat N))).before args s = true) (hel : ∀ j : Nat, j < N → (Cond.eq (.elem tm (.int (Int32.ofNat j))) (.int (f j))).before args s = true) (hA : ∀ a : Nat, a < s.heap.size → ¬ A a) :
    ∃ t : Nat, tm.eval args s none [] s = some (.ref t) ∧ t < s.heap.size ∧ va_T ty t N (fun j => .int (f j)) A s s.heap ∧ ∀ (cell : Cell) (k a : Nat), s.heap[t]? = some cell → ¬ cell.slots[k]? = some (.ref a) := by
  obtain ⟨t, ht, hT⟩ := va_Tof (f := fun j => .int (f j)) (A := A) hN harr (va_eqt hlen) (fun j hj => va_eqt (hel j hj)) hA
  have hsz : ∃ cell : Cell, s.heap[t]? = some cell ∧ cell.slots.size = N := by
    have h := va_eqt hlen
    simp only [Term.eval, Option.bind_eq_bind, ht, Option.bind_some, Option.bind_eq_some_iff] at h
    obtain ⟨cell, h1, h2⟩ := h
    obtain ⟨hc, -⟩ := State.arrayAt?_spec h1
    refine ⟨cell, hc, ?_⟩
    by_cases hn : cell.slots.size < 2 ^ 31
    · rw [if_pos hn] at h2
      have e : cell.slots.size.toInt32 = Int32.ofNat N := Value.int.inj (Option.some.inj h2)
      have e1 := congrArg Int32.toNatClampNeg e
      rw [show cell.slots.size.toInt32 = Int32.ofNat cell.slots.size from rfl, Int32.toNatClampNeg_ofNat_of_lt hn, Int32.toNatClampNeg_ofNat_of_lt hN] at e1
      exact e1
    · rw [if_neg hn] at h2
      cases h2
  obtain ⟨cell, hc, hs⟩ := hsz
  refine ⟨t, ht, (Array.getElem?_eq_some_iff.mp hc).1, hT, fun cell' k a hc' hk => ?_⟩
  cases hc.symm.trans hc'
  obtain ⟨cell', g1, -, -, -, -, g6, -⟩ := hT
  cases hc.symm.trans g1
  have hlt := (Array.getElem?_eq_some_iff.mp hk).1
  have := g6 k (by omega)
  rw [this] at hk
  cases hk
theorem w_apart {ty ty' : FieldType} {a b N M : Nat} {f g : Nat → Value} {A : Nat → Prop} (h : va_T ty a N f A s s.heap) (h' : va_T ty' b M g A s s.heap) (hne : ty ≠ ty') : a ≠ b := by
  intro e
  subst e
  obtain ⟨c1, g1, ⟨-, k1, q1, m1, r1⟩, -⟩ := h
  obtain ⟨c2, g2, ⟨-, k2, q2, m2, r2⟩, -⟩ := h'
  cases g1.symm.trans g2
  cases q1.symm.trans q2
  rw [r1] at r2
  cases r2
  exact hne rfl
def wL (j : Nat) : Int32 := nI (if j = 6 then 1 else 0)
def wG (j : Nat) : Int32 := nI (if j = 0 then 99 else if j = 1 then 7 else if j = 2 then 0 else if j = 3 then 3 else if j = 4 then 3 else if j = 5 then 99 else 15)
def wS (j : Nat) : Int32 := nI (if j = 0 then 97 else if j = 1 then 115 else if j = 2 then 116 else if j = 3 then 108 else if j = 4 then 102 else if j = 5 then 119 else 98)
def wTS : Term := .string "TurnSlots$Pad" 53
def wTV : Term := .field wTS "java/lang/String" "value" "[B"
def w_fl : List Cond := flatC (Jvm.Cond.and given_1 narrow_1)
theorem w_lo : ∀ j, j < 7 → Cond.eq (.elem (.static "TurnSlots" "LEAST_N" "[I") (.int (Int32.ofNat j))) (.int (wL j)) ∈ w_fl := by decide +kernel
theorem w_gr : ∀ j, j < 7 → Cond.eq (.elem (.static "TurnSlots" "GREATEST_N" "[I") (.int (Int32.ofNat j))) (.int (wG j)) ∈ w_fl := by decide +kernel
theorem w_st : ∀ j, j < 7 → Cond.eq (.elem wTV (.int (Int32.ofNat j))) (.int (wS j)) ∈ w_fl := by decide +kernel
theorem w_more : Cond.arrayOf (.static "TurnSlots" "LEAST_N" "[I") .int ∈ w_fl ∧ Cond.eq (.length (.static "TurnSlots" "LEAST_N" "[I")) (.int (Int32.ofNat 7)) ∈ w_fl ∧ Cond.arrayOf (.static "TurnSlots" "GREATEST_N" "[I") .int ∈ w_fl ∧ Cond.eq (.length (.static "TurnSlots" "GREATEST_N" "[I")) (.int (Int32.ofNat 7)) ∈ w_fl ∧
    Cond.arrayOf wTV .byte ∈ w_fl ∧ Cond.eq (.length wTV) (.int (Int32.ofNat 7)) ∈ w_fl ∧ Cond.exactly wTS "java/lang/String" ∈ w_fl ∧ Cond.eq (.field wTS "java/lang/String" "coder" "B") (.int 0) ∈ w_fl ∧ Cond.eq (.static "java/lang/String" "COMPACT_STRINGS" "Z") (.int 1) ∈ w_fl ∧
    Cond.not (.eq (.arg 0) (.static "TurnSlots" "LEAST_N" "[I")) ∈ w_fl ∧ Cond.not (.eq (.arg 0) (.static "TurnSlots" "GREATEST_N" "[I")) ∈ w_fl := by decide +kernel
/-- the classes -/
theorem w_K (hts : ∀ w ∈ xws0, w.before args s = true) (hAO : va_AO RX0 s ∧ va_AO RX2 s) : ∃ (D : va_G) (cy : Nat → ClassId), va_K D vwCl (xtys cy) s := by
  obtain ⟨c0, i0, k0⟩ := u_known (n := xN 1) hts xw_lay_0 (hts _ xw_inst_0)
  obtain ⟨c1, i1, k1⟩ := u_known (n := xN 2) hts xw_lay_1 (hts _ xw_inst_1)
  obtain ⟨c2, i2, k2⟩ := u_known (n := xN 3) hts xw_lay_2 (hts _ xw_inst_2)
  obtain ⟨c3, i3, k3⟩ := u_known (n := xN 4) hts xw_lay_3 (hts _ xw_inst_3)
  obtain ⟨c4, i4, k4⟩ := u_known (n := xN 5) hts xw_lay_4 (hts _ xw_inst_4)
  obtain ⟨c5, i5, k5⟩ := u_known (n := xN 6) hts xw_lay_5 (hts _ xw_inst_5)
  obtain ⟨a7, q7, m7, f7, g7, h7⟩ := Cond.arrayClass_spec (hts _ xw_arr_int)
  obtain ⟨a8, q8, m8, f8, g8, h8⟩ := Cond.arrayClass_spec (hts _ xw_arr_char)
  obtain ⟨a9, q9, m9, f9, g9, h9⟩ := Cond.arrayClass_spec (hts _ xw_arr_boolean)
  obtain ⟨m10, a10, q10, f10, -, g10, h10, n10⟩ := Cond.arrayOver_spec (hAO.1.use (A := args))
  obtain ⟨m11, a11, q11, f11, -, g11, h11, n11⟩ := Cond.arrayOver_spec (hAO.2.use (A := args))
  refine ⟨(fun k => match k with | 0 => c0 | 1 => c1 | 2 => c2 | 3 => c3 | 4 => c4 | _ => c5, fun k => match k with | 0 => i0 | 1 => i1 | 2 => i2 | 3 => i3 | 4 => i4 | _ => i5), fun k => match k with | 7 => a7 | 8 => a8 | 9 => a9 | 10 => a10 | _ => a11, fun k q hq => ?_, fun k q hq => ?_⟩
  · match k, hq with
    | 0, hq => cases hq; exact k0
    | 1, hq => cases hq; exact k1
    | 2, hq => cases hq; exact k2
    | 3, hq => cases hq; exact k3
    | 4, hq => cases hq; exact k4
    | 5, hq => cases hq; exact k5
    | k + 6, hq => simp [vwCl] at hq
  · match k, hq with
    | 0, hq => cases hq; exact ⟨fun n z => ⟨fun k h => (by cases h), q7, g7, m7, h7⟩, f7⟩
    | 1, hq => cases hq; exact ⟨fun n z => ⟨fun k h => (by cases h), q8, g8, m8, h8⟩, f8⟩
    | 2, hq => cases hq; exact ⟨fun n z => ⟨fun k h => (by cases h), q9, g9, m9, h9⟩, f9⟩
    | 3, hq => cases hq; exact ⟨fun n z => ⟨fun k h => (by cases h), q10, g10, m10, h10⟩, q10, m10, g10, h10, f10, n10⟩
    | 4, hq => cases hq; exact ⟨fun n z => ⟨fun k h => (by cases h), q11, g11, m11, h11⟩, q11, m11, g11, h11, f11, n11⟩
    | k + 5, hq => simp [xtys] at hq
/-- the cells at the start -/
def wSh (b L : Nat) (E : Nat × Nat × Nat) (v T : Nat) : xSh := (fun a => if a = b then (14, L, fun _ => none) else if a = E.1 then (14, 7, fun _ => none) else if a = E.2.1 then (14, 7, fun _ => none) else if a = E.2.2 then (13, 0, fun _ => some v) else if a = v then (12, 7, fun _ => none) else (0, 0, fun _ => none), T, 0)
def wVal (b : Nat) (xs : Nat → Int32) (E : Nat × Nat × Nat) (v : Nat) : xV := fun a j => if a = b then xs j else if a = E.1 then wL j else if a = E.2.1 then wG j else if a = v then wS j else 0
/-- what the start gives -/
def wAll (s : State) (b L : Nat) (xs : Nat → Int32) (E : Nat × Nat × Nat) (v : Nat) : Prop :=
  va_T .int b L (fun j => .int (xs j)) (xA s.heap.size) s s.heap ∧ va_T .int E.1 7 (fun j => .int (wL j)) (xA s.heap.size) s s.heap ∧ va_T .int E.2.1 7 (fun j => .int (wG j)) (xA s.heap.size) s s.heap ∧ va_T .byte v 7 (fun j => .int (wS j)) (xA s.heap.size) s s.heap ∧
  va_O "java/lang/String" E.2.2 (xA s.heap.size) s s.heap ∧ va_OF "java/lang/String" "value" "[B" (.ref v) E.2.2 (xA s.heap.size) s s.heap ∧ va_OF "java/lang/String" "coder" "B" (.int 0) E.2.2 (xA s.heap.size) s s.heap ∧
  b < s.heap.size ∧ E.1 < s.heap.size ∧ E.2.1 < s.heap.size ∧ E.2.2 < s.heap.size ∧ v < s.heap.size ∧
  E.1 ≠ b ∧ E.2.1 ≠ b ∧ E.2.1 ≠ E.1 ∧ E.2.2 ≠ b ∧ E.2.2 ≠ E.1 ∧ E.2.2 ≠ E.2.1 ∧ v ≠ b ∧ v ≠ E.1 ∧ v ≠ E.2.1 ∧ v ≠ E.2.2
theorem w_Ex {b L : Nat} {xs : Nat → Int32} {E : Nat × Nat × Nat} {v : Nat} (h : wAll s b L xs E v) : xEx s.heap.size (wSh b L E v s.heap.size) (wVal b xs E v) s s.heap := by
  obtain ⟨t1, t2, t3, t4, t5, t6, t7, -, -, -, -, -, n1, n2, n3, n4, n5, n6, n7, n8, n9, n10⟩ := h
  have e1 : ∀ j, wVal b xs E v b j = xs j := fun j => by simp [wVal]
  have e2 : ∀ j, wVal b xs E v E.1 j = wL j := fun j => by simp [wVal, n1]
  have e3 : ∀ j, wVal b xs E v E.2.1 j = wG j := fun j => by simp [wVal, n2, n3]
  have e4 : ∀ j, wVal b xs E v E.2.2 j = 0 := fun j => by simp [wVal, n4, n5, n6, n10.symm]
  have e5 : ∀ j, wVal b xs E v v j = wS j := fun j => by simp [wVal, n7, n8, n9]
  intro a
  by_cases h1 : a = b
  · subst h1
    have k : (wSh a L E v s.heap.size).1 a = (14, L, fun _ => none) := by simp [wSh]
    refine ⟨fun _ => ?_, fun z => ?_, fun z => ?_⟩
    · simp only [xln, k, e1]; exact t1
    · simp [xkd, k] at z
    · simp [xkd, k] at z
  by_cases h2 : a = E.1
  · subst h2
    have k : (wSh b L E v s.heap.size).1 E.1 = (14, 7, fun _ => none) := by simp [wSh, n1]
    refine ⟨fun _ => ?_, fun z => ?_, fun z => ?_⟩
    · simp only [xln, k, e2]; exact t2
    · simp [xkd, k] at z
    · simp [xkd, k] at z
  by_cases h3 : a = E.2.1
  · subst h3
    have k : (wSh b L E v s.heap.size).1 E.2.1 = (14, 7, fun _ => none) := by simp [wSh, n2]
    refine ⟨fun _ => ?_, fun z => ?_, fun z => ?_⟩
    · simp only [xln, k, e3]; exact t3
    · simp [xkd, k] at z
    · simp [xkd, k] at z
  by_cases h4 : a = E.2.2
  · subst h4
    have k : (wSh b L E v s.heap.size).1 E.2.2 = (13, 0, fun _ => some v) := by simp [wSh, n4, n5, n6]
    refine ⟨fun z => ?_, fun z => ?_, fun _ => ⟨t5, ?_, ?_⟩⟩
    · simp [xkd, k] at z
    · simp [xkd, k] at z
    · simp only [xrf, k]; exact t6
    · simp only [e4]; exact t7
  by_cases h5 : a = v
  · subst h5
    have k : (wSh b L E a s.heap.size).1 a = (12, 7, fun _ => none) := by simp [wSh, n7, n8, n9, n10]
    refine ⟨fun z => ?_, fun _ => ?_, fun z => ?_⟩
    · simp [xkd, k] at z
    · simp only [xln, k, e5]; exact t4
    · simp [xkd, k] at z
  have k : (wSh b L E v s.heap.size).1 a = (0, 0, fun _ => none) := by simp [wSh, h1, h2, h3, h4, h5]
  exact ⟨fun z => by simp [xkd, k] at z, fun z => by simp [xkd, k] at z, fun z => by simp [xkd, k] at z⟩
theorem w_P {cy : Nat → ClassId} {D : va_G} {b L : Nat} {xs : Nat → Int32} {E : Nat × Nat × Nat} {v : Nat} : xP cy D s.heap.size (wSh b L E v s.heap.size) (wVal b xs E v) s.heap := by
  refine ⟨rfl, fun a => ?_⟩
  have h : xkd (wSh b L E v s.heap.size) a = 0 ∨ 12 ≤ xkd (wSh b L E v s.heap.size) a := by
    unfold xkd wSh
    dsimp only
    repeat' split
    all_goals simp
  rcases h with h | h
  · exact ⟨fun z => by omega, fun z => by omega, fun z => by omega, fun z => by omega⟩
  · exact ⟨fun _ z => by omega, fun _ z => by omega, fun _ z => by omega, fun _ z => by omega⟩
theorem w_oe {b L : Nat} {xs : Nat → Int32} {E : Nat × Nat × Nat} {v T : Nat} (h : wAll s b L xs E v) (hT : s.heap.size = T) {S' : xSh} {V' : xV} (ho : ∀ a, a < T → S'.1 a = (wSh b L E v T).1 a ∧ V' a = wVal b xs E v a) : oRep E S' V' T ∧ eRep E S' V' T := by
  subst hT
  obtain ⟨-, -, -, -, -, -, -, l1, l2, l3, l4, l5, n1, n2, n3, n4, n5, n6, n7, n8, n9, n10⟩ := h
  have k2 : S'.1 E.1 = (14, 7, fun _ => none) := by rw [(ho _ l2).1]; simp [wSh, n1]
  have k3 : S'.1 E.2.1 = (14, 7, fun _ => none) := by rw [(ho _ l3).1]; simp [wSh, n2]
  have k4 : S'.1 E.2.2 = (13, 0, fun _ => some v) := by rw [(ho _ l4).1]; simp [wSh, n4, n5, n6]
  have k5 : S'.1 v = (12, 7, fun _ => none) := by rw [(ho _ l5).1]; simp [wSh, n7, n8, n9, n10]
  have e2 : ∀ j, V' E.1 j = wL j := fun j => by rw [(ho _ l2).2]; simp [wVal, n1]
  have e3 : ∀ j, V' E.2.1 j = wG j := fun j => by rw [(ho _ l3).2]; simp [wVal, n2, n3]
  have e4 : ∀ j, V' E.2.2 j = 0 := fun j => by rw [(ho _ l4).2]; simp [wVal, n4, n5, n6, n10.symm]
  have e5 : ∀ j, V' v j = wS j := fun j => by rw [(ho _ l5).2]; simp [wVal, n7, n8, n9]
  refine ⟨⟨by simp [xkd, k2], by simp [xln, k2], fun k _ => e2 k, by simp [xkd, k3], by simp [xln, k3], fun k _ => e3 k, l2, l3⟩, v, by simp [xkd, k4], by simp [xrf, k4], (e4 1).trans rfl, by simp [xkd, k5], by simp [xln, k5], e5 0, e5 1, e5 2, e5 3, e5 4, e5 5, e5 6, l4, l5⟩
end STA
section STB
variable {p : Program} {e : Env} {s : State} {m : MethodId} {below : List Frame} {meth : Method} {c : Code}
theorem w_start {b L : Nat} {xs : Nat → Int32} (C0 : lw_At p s m meth c b L xs) : ∃ (E : Nat × Nat × Nat) (v : Nat), wAll s b L xs E v ∧ xSo s.heap.size E s s.heap := by
  obtain ⟨hx, hb, hr, hml, hown, hts, hX, hbl, hlocks, hgv⟩ := C0
  have hs : ∀ w ∈ w_fl, w.before #[Value.ref b] s = true := flat_of_before _ hgv
  have hA : ∀ a : Nat, a < s.heap.size → ¬ xA s.heap.size a := fun a h => Nat.not_le.mpr h
  obtain ⟨f1, f2, f3, f4, f5, f6, f7, f8, f9, f10, f11⟩ := w_more
  obtain ⟨aL, hL, lL, tL, rL⟩ := w_arr (f := wL) (Nat.le_of_ble_eq_true rfl) (hs _ f1) (hs _ f2) (fun j hj => hs _ (w_lo j hj)) hA
  obtain ⟨aG, hG, lG, tG, rG⟩ := w_arr (f := wG) (Nat.le_of_ble_eq_true rfl) (hs _ f3) (hs _ f4) (fun j hj => hs _ (w_gr j hj)) hA
  obtain ⟨v, hv, lv, tv, rv⟩ := w_arr (f := wS) (Nat.le_of_ble_eq_true rfl) (hs _ f5) (hs _ f6) (fun j hj => hs _ (w_st j hj)) hA
  obtain ⟨aS, cS, cA, kA, q1, q2, q3, q4, q5, q6, -⟩ := Cond.exactly_spec (args := #[Value.ref b]) (first := s) (o := none) (s := s) (idx := []) (t := wTS) (cls := "java/lang/String") (hs _ f7)
  have lS := (Array.getElem?_eq_some_iff.mp q3).1
  have oV := vk_OFof q1 hv hA
  have oC := vk_OFof q1 (va_eqt (hs _ f8)) hA
  obtain ⟨scr, x1, x2, x3, x4, x5⟩ := hX
  have nosl : ∃ cell : Cell, s.heap[aS]? = some cell ∧ ∃ k : Nat, cell.slots[k]? = some (Value.ref v) := by
    obtain ⟨cf, k, i, f, cell, -, -, g3, -, g5, -⟩ := oV
    exact ⟨cell, g3, _, g5⟩
  obtain ⟨cell, g1, k, g2⟩ := nosl
  have hb0 : (Term.arg 0).eval #[Value.ref b] s none [] s = some (.ref b) := rfl
  have nSb : aS ≠ b := by
    intro e
    subst e
    cases g1.symm.trans x1
    have hlt := (Array.getElem?_eq_some_iff.mp g2).1
    rw [x5 k (by omega)] at g2
    cases g2
  have tb : va_T .int b L (fun j => .int (xs j)) (xA s.heap.size) s s.heap := ⟨scr, x1, x2, x3, by omega, by rw [x4], x5, hA b hbl⟩
  have nGL : aG ≠ aL := by
    intro e
    subst e
    obtain ⟨c1, y1, -, -, -, -, y6, -⟩ := tL
    obtain ⟨c2, z1, -, -, -, -, z6, -⟩ := tG
    cases y1.symm.trans z1
    have h := (y6 6 (by decide)).symm.trans (z6 6 (by decide))
    have h2 : wL 6 = wG 6 := Value.int.inj (Option.some.inj h)
    exact absurd h2 (by decide)
  have hts0 : ∀ {i : Nat} {w : Cond}, lw_tbl[i]? = some w → w.before #[Value.ref b] s = true := fun h => hts _ (List.mem_of_getElem? h)
  refine ⟨(aL, aG, aS), v, ⟨tb, tL, tG, tv, ⟨cA, q3, q5, by rw [q6]; exact q2, hA _ lS⟩, oV, oC, hbl, lL, lG, lS, lv, ?_, ?_, nGL, nSb, ?_, ?_, ?_, ?_, ?_, ?_⟩, ?_⟩
  · exact fun e => va_neR (hs _ f10) hb0 hL e.symm
  · exact fun e => va_neR (hs _ f11) hb0 hG e.symm
  · exact fun e => rL cell k v (by rw [← (show aS = aL from e)]; exact g1) g2
  · exact fun e => rG cell k v (by rw [← (show aS = aG from e)]; exact g1) g2
  · exact w_apart tv tb (by decide)
  · exact w_apart tv tL (by decide)
  · exact w_apart tv tG (by decide)
  · exact fun e => rv cell k v (by rw [show v = aS from e]; exact g1) g2
  · refine ⟨va_Zref (hts0 (i := 244) (by decide +kernel)) (hts0 (i := 45) (by decide +kernel)) hL hA, va_Zref (hts0 (i := 246) (by decide +kernel)) (hts0 (i := 45) (by decide +kernel)) hG hA, va_Zof (hts0 (i := 305) (by decide +kernel)) (hts0 (i := 52) (by decide +kernel)) (va_eqi (hs _ f9)) hA, vk_R.of (hts0 (i := 291) (by decide +kernel)) q1, va_AO.of (hts0 (i := 74) (by decide +kernel)), va_AO.of (hts0 (i := 166) (by decide +kernel)), fun w hw => va_Nw.of ?_ (hts _ (xNw_tbl w hw))⟩
    rcases xNw_kind w hw with ⟨_, _, _, _, rfl⟩ | ⟨_, _, _, _, _, _, rfl⟩ <;> rfl
theorem w_Cx {cy : Nat → ClassId} {D : va_G} {E : Nat × Nat × Nat} {b L : Nat} {xs : Nat → Int32} (C0 : lw_At p s m meth c b L xs) (hK : va_K D vwCl (xtys cy) s) (hO : xSo s.heap.size E s s.heap) : xCx cy D s.heap.size E p room_1 s m #[Value.ref b] meth c mL_law := by
  obtain ⟨hx, hb, hr, hml, hown, hts, hX, hbl, hlocks, hgv⟩ := C0
  exact ⟨hx, hb, hml, hown, fun h => absurd h (by decide), fun w hw => hts w (List.mem_filter.mp hw).1, hK, hO, Nat.le_refl _, Nat.le_of_ble_eq_true rfl, Nat.le_of_ble_eq_true rfl⟩
theorem w_ret {cy : Nat → ClassId} {D : va_G} {b L : Nat} {xs : Nat → Int32} (l : Launch) (C0 : lw_At p s m meth c b L xs) {E : Nat × Nat × Nat} {S : xSh} {V : xV} {v : Int32} (hv : v = 1) (hT : S.2.1 - s.heap.size ≤ 600000) (hZ : S.2.2 ≤ 7302249) {pc : Nat} {ls : List (Option Value)} {st : List Value} (hs : xstep E mL_law pc ls st S V = some (.inr (.inl (some (.int v))))) : xG cy D s.heap.size p l e room_1 s m #[Value.ref b] below meth c (lw_Z below #[Value.ref b] s) 4 s.heap.size 0 pc ls st S V := by
  subst hv
  obtain ⟨hx, hb, hr, hml, hown, hts, hX, hbl, hlocks, hgv⟩ := C0
  intro H locs lsA hP hS hE hl
  unfold xstep at hs
  cases hd : decode mL_law.2.1 pc with
  | error x => rw [hd] at hs; cases hs
  | ok ik =>
  obtain ⟨i, kk⟩ := ik
  rw [hd] at hs
  dsimp only at hs
  cases i
  case ireturn =>
    simp only [xdo] at hs
    split at hs
    · rename_i hk1
      subst hk1
      split at hs
      · split at hs
        · split at hs
          · cases hs
            exact va_forget (fun q hq => hS.2.2 q hq) (W.widen hT (by omega) (lw_ret hx hb hr hlocks hd))
          · cases hs
        · cases hs
      · cases hs
    · cases hs
  all_goals (exfalso; simp only [xdo, xgo, xoff, xcall] at hs; repeat' (split at hs))
  all_goals cases hs
/-- the law from its entry -/
theorem whole_start (l : Launch) (hflags : l.flags = flags0) {b L : Nat} {xs : Nat → Int32} (hL : L ≤ 2048) (C0 : lw_At p s m meth c b L xs) : W p l e room_1 s m #[Value.ref b] below meth c s.heap [] 0 0 (lw_Z below #[Value.ref b] s) (entryFrame m ([Value.ref b] : List Value).toArray 4) := by
  obtain ⟨E, v, hA, hO⟩ := w_start C0
  obtain ⟨D, cy, hK⟩ := w_K (args := #[Value.ref b]) (s := s) (fun w hw => C0.2.2.2.2.2.1 w (List.mem_filter.mp hw).1) ⟨hO.2.2.2.2.1, hO.2.2.2.2.2.1⟩
  have hC := w_Cx C0 hK hO
  obtain ⟨n, r, hrun, h1, h2, h3⟩ : xX E mL_law 0 [some (.ref b), none, none, none] [] (wSh b L E v s.heap.size) (wVal b xs E v) (fun v' S' V' => v' = some (.int (nI 1)) ∧ S'.2.1 = s.heap.size + 459 ∧ S'.2.2 = 9628) :=
    law_all (L := L) (by simp [wSh, xkd]) (by simp [wSh, xln]) (by omega) hA.2.2.2.2.2.2.2.1 (fun S' V' ho => w_oe hA rfl ho) (fun S' V' e1 e2 => ⟨rfl, e1, by rw [e2]; exact Nat.zero_add _⟩)
  obtain ⟨rv, rS, rV⟩ := r
  dsimp only at h1 h2 h3
  subst h1
  have main := xrun_ok (l := l) (e := e) (below := below) (Q := lw_Z below #[Value.ref b] s) (T0 := s.heap.size) (Z0 := 0) hC (r := (some (.int (nI 1)), rS, rV))
    (fun pc ls st S V v' hs he => by
      cases he
      exact w_ret l C0 rfl (by omega) (by omega) hs)
    (fun y as S V n r hok _ hln hr => xsound l cy D s.heap.size E (xht y + 1) y (Nat.lt_succ_self _) hok as S V n r hln hr)
    ⟨by show rS.2.1 - s.heap.size ≤ 600000; omega, by show rS.2.2 - 0 ≤ 7302249; omega⟩ n 0 _ [] _ _ hrun (Nat.le_refl _) (Nat.le_refl _)
  rw [lg_entry_eq]
  have k0 := main s.heap [] _ w_P va_S.rf (w_Ex hA) (xLo_entry [.ref b] (n := 4) (show 1 ≤ 4 by decide))
  rw [show (wSh b L E v s.heap.size).2.1 - s.heap.size = 0 from Nat.sub_self _, show (wSh b L E v s.heap.size).2.2 - 0 = 0 from rfl] at k0
  exact k0
end STB
