/-! ===== the law's start: what the Statement gives of it, as cells of the pure machine ===== -/
section STA
variable {args : Array Value} {s : State}
theorem w_arr {tm : Term} {ty : FieldType} {N : Nat} {f : Nat → Int32} {A : Nat → Prop} (hN : N < 2 ^ 31) (harr : (Cond.arrayOf tm ty).before args s = true) (hlen : (Cond.eq (.length tm) (.int (Int32.ofNat N))).before args s = true) (hel : ∀ j : Nat, j < N → (Cond.eq (.elem tm (.int (Int32.ofNat j))) (.int (f j))).before args s = true) (hA : ∀ a : Nat, a < s.heap.size → ¬ A a) :
    ∃ t : Nat, tm.eval args s none [] s = some (.ref t) ∧ t < s.heap.size ∧ va_T ty t N (fun j => .int (f j)) A s s.heap ∧ ∀ (cell : Cell) (k a : Nat), s.heap[t]? = some cell → ¬ cell.slots[k]? = some (.ref a) := by
  obtain ⟨t, ht, hT⟩ := va_Tof (f := fun j => .int (f j)) (A := A) hN harr (va_eqt hlen) (fun j hj => va_eqt (hel j hj)) hA
  have hsz : ∃ cell : Cell, s.heap[t]? = some cell ∧ cell.slots.size = N := by
    have h := va_eqt hlen
    simp only [Term.eval, Option.bind_eq_bind, ht, Option.bind_some, Option.bind_eq_some_iff] at h
    obtain ⟨cell, h1, h2⟩ := h
    obtain ⟨hc, -⟩ := State.arrayAt?_spec h1
    refine ⟨cell, hc, ?_⟩
    by_cases hn : cell.slots.size < 2 ^ 31
    · rw [if_pos hn] at h2
      have e : cell.slots.size.toInt32 = Int32.ofNat N := Value.int.inj (Option.some.inj h2)
      have e1 := congrArg Int32.toNatClampNeg e
      rw [show cell.slots.size.toInt32 = Int32.ofNat cell.slots.size from rfl, Int32.toNatClampNeg_ofNat_of_lt hn, Int32.toNatClampNeg_ofNat_of_lt hN] at e1
      exact e1
    · rw [if_neg hn] at h2
      cases h2
  obtain ⟨cell, hc, hs⟩ := hsz
  refine ⟨t, ht, (Array.getElem?_eq_some_iff.mp hc).1, hT, fun cell' k a hc' hk => ?_⟩
  cases hc.symm.trans hc'
  obtain ⟨cell', g1, -, -, -, -, g6, -⟩ := hT
  cases hc.symm.trans g1
  have hlt := (Array.getElem?_eq_some_iff.mp hk).1
  have := g6 k (by omega)
  rw [this] at hk
  cases hk
theorem w_apart {ty ty' : FieldType} {a b N M : Nat} {f g : Nat → Value} {A : Nat → Prop} (h : va_T ty a N f A s s.heap) (h' : va_T ty' b M g A s s.heap) (hne : ty ≠ ty') : a ≠ b := by
  intro e
  subst e
  obtain ⟨c1, g1, ⟨-, k1, q1, m1, r1⟩, -⟩ := h
  obtain ⟨c2, g2, ⟨-, k2, q2, m2, r2⟩, -⟩ := h'
  cases g1.symm.trans g2
  cases q1.symm.trans q2
  rw [r1] at r2
  cases r2
  exact hne rfl
def wL (j : Nat) : Int32 := nI (if j = 6 then 1 else 0)
def wG (j : Nat) : Int32 := nI (if j = 0 then 99 else if j = 1 then 7 else if j = 2 then 0 else if j = 3 then 3 else if j = 4 then 3 else if j = 5 then 99 else 15)
def w_fl : List Cond := flatC (Jvm.Cond.and given_1 narrow_1)
theorem w_lo : ∀ j, j < 7 → Cond.eq (.elem (.static "TurnSlots" "LEAST_N" "[I") (.int (Int32.ofNat j))) (.int (wL j)) ∈ w_fl := by decide +kernel
theorem w_gr : ∀ j, j < 7 → Cond.eq (.elem (.static "TurnSlots" "GREATEST_N" "[I") (.int (Int32.ofNat j))) (.int (wG j)) ∈ w_fl := by decide +kernel
theorem w_more : Cond.arrayOf (.static "TurnSlots" "LEAST_N" "[I") .int ∈ w_fl ∧ Cond.eq (.length (.static "TurnSlots" "LEAST_N" "[I")) (.int (Int32.ofNat 7)) ∈ w_fl ∧ Cond.arrayOf (.static "TurnSlots" "GREATEST_N" "[I") .int ∈ w_fl ∧ Cond.eq (.length (.static "TurnSlots" "GREATEST_N" "[I")) (.int (Int32.ofNat 7)) ∈ w_fl ∧
    Cond.not (.eq (.arg 0) (.static "TurnSlots" "LEAST_N" "[I")) ∈ w_fl ∧ Cond.not (.eq (.arg 0) (.static "TurnSlots" "GREATEST_N" "[I")) ∈ w_fl := by decide +kernel
/-- the classes -/
theorem w_K (hts : ∀ w ∈ xws0, w.before args s = true) (hAO : va_AO RX0 s ∧ va_AO RX2 s) : ∃ (D : va_G) (cy : Nat → ClassId), va_K D vwCl (xtys cy) s := by
  obtain ⟨c0, i0, k0⟩ := u_known (n := xN 1) hts xw_lay_0 (hts _ xw_inst_0)
  obtain ⟨c1, i1, k1⟩ := u_known (n := xN 2) hts xw_lay_1 (hts _ xw_inst_1)
  obtain ⟨c2, i2, k2⟩ := u_known (n := xN 3) hts xw_lay_2 (hts _ xw_inst_2)
  obtain ⟨c3, i3, k3⟩ := u_known (n := xN 4) hts xw_lay_3 (hts _ xw_inst_3)
  obtain ⟨c4, i4, k4⟩ := u_known (n := xN 5) hts xw_lay_4 (hts _ xw_inst_4)
  obtain ⟨a7, q7, m7, f7, g7, h7⟩ := Cond.arrayClass_spec (hts _ xw_arr_int)
  obtain ⟨a8, q8, m8, f8, g8, h8⟩ := Cond.arrayClass_spec (hts _ xw_arr_char)
  obtain ⟨a9, q9, m9, f9, g9, h9⟩ := Cond.arrayClass_spec (hts _ xw_arr_boolean)
  obtain ⟨m10, a10, q10, f10, -, g10, h10, n10⟩ := Cond.arrayOver_spec (hAO.1.use (A := args))
  obtain ⟨m11, a11, q11, f11, -, g11, h11, n11⟩ := Cond.arrayOver_spec (hAO.2.use (A := args))
  refine ⟨(fun k => match k with | 0 => c0 | 1 => c1 | 2 => c2 | 3 => c3 | _ => c4, fun k => match k with | 0 => i0 | 1 => i1 | 2 => i2 | 3 => i3 | _ => i4), fun k => match k with | 7 => a7 | 8 => a8 | 9 => a9 | 10 => a10 | _ => a11, fun k q hq => ?_, fun k q hq => ?_⟩
  · match k, hq with
    | 0, hq => cases hq; exact k0
    | 1, hq => cases hq; exact k1
    | 2, hq => cases hq; exact k2
    | 3, hq => cases hq; exact k3
    | 4, hq => cases hq; exact k4
    | k + 5, hq => simp [vwCl] at hq
  · match k, hq with
    | 0, hq => cases hq; exact ⟨fun n z => ⟨fun k h => (by cases h), q7, g7, m7, h7⟩, f7⟩
    | 1, hq => cases hq; exact ⟨fun n z => ⟨fun k h => (by cases h), q8, g8, m8, h8⟩, f8⟩
    | 2, hq => cases hq; exact ⟨fun n z => ⟨fun k h => (by cases h), q9, g9, m9, h9⟩, f9⟩
    | 3, hq => cases hq; exact ⟨fun n z => ⟨fun k h => (by cases h), q10, g10, m10, h10⟩, q10, m10, g10, h10, f10, n10⟩
    | 4, hq => cases hq; exact ⟨fun n z => ⟨fun k h => (by cases h), q11, g11, m11, h11⟩, q11, m11, g11, h11, f11, n11⟩
    | k + 5, hq => simp [xtys] at hq
/-- the cells at the start -/
def wSh (b L : Nat) (E : Nat × Nat × Nat) (T : Nat) : xSh := (fun a => if a = b then (14, L, fun _ => none) else if a = E.1 then (14, 7, fun _ => none) else if a = E.2.1 then (14, 7, fun _ => none) else (0, 0, fun _ => none), T, 0)
def wVal (b : Nat) (xs : Nat → Int32) (E : Nat × Nat × Nat) : xV := fun a j => if a = b then xs j else if a = E.1 then wL j else if a = E.2.1 then wG j else 0
/-- what the start gives -/
def wAll (s : State) (b L : Nat) (xs : Nat → Int32) (E : Nat × Nat × Nat) : Prop :=
  va_T .int b L (fun j => .int (xs j)) (xA s.heap.size) s s.heap ∧ va_T .int E.1 7 (fun j => .int (wL j)) (xA s.heap.size) s s.heap ∧ va_T .int E.2.1 7 (fun j => .int (wG j)) (xA s.heap.size) s s.heap ∧
  b < s.heap.size ∧ E.1 < s.heap.size ∧ E.2.1 < s.heap.size ∧ E.1 ≠ b ∧ E.2.1 ≠ b ∧ E.2.1 ≠ E.1
theorem w_Ex {b L : Nat} {xs : Nat → Int32} {E : Nat × Nat × Nat} (h : wAll s b L xs E) : xEx s.heap.size (wSh b L E s.heap.size) (wVal b xs E) s s.heap := by
  obtain ⟨t1, t2, t3, -, -, -, n1, n2, n3⟩ := h
  have e1 : ∀ j, wVal b xs E b j = xs j := fun j => by simp [wVal]
  have e2 : ∀ j, wVal b xs E E.1 j = wL j := fun j => by simp [wVal, n1]
  have e3 : ∀ j, wVal b xs E E.2.1 j = wG j := fun j => by simp [wVal, n2, n3]
  intro a
  by_cases h1 : a = b
  · subst h1
    have k : (wSh a L E s.heap.size).1 a = (14, L, fun _ => none) := by simp [wSh]
    refine ⟨fun _ => ?_, fun z => ?_, fun z => ?_⟩
    · simp only [xln, k, e1]; exact t1
    · simp [xkd, k] at z
    · simp [xkd, k] at z
  by_cases h2 : a = E.1
  · subst h2
    have k : (wSh b L E s.heap.size).1 E.1 = (14, 7, fun _ => none) := by simp [wSh, n1]
    refine ⟨fun _ => ?_, fun z => ?_, fun z => ?_⟩
    · simp only [xln, k, e2]; exact t2
    · simp [xkd, k] at z
    · simp [xkd, k] at z
  by_cases h3 : a = E.2.1
  · subst h3
    have k : (wSh b L E s.heap.size).1 E.2.1 = (14, 7, fun _ => none) := by simp [wSh, n2]
    refine ⟨fun _ => ?_, fun z => ?_, fun z => ?_⟩
    · simp only [xln, k, e3]; exact t3
    · simp [xkd, k] at z
    · simp [xkd, k] at z
  have k : (wSh b L E s.heap.size).1 a = (0, 0, fun _ => none) := by simp [wSh, h1, h2, h3]
  exact ⟨fun z => by simp [xkd, k] at z, fun z => by simp [xkd, k] at z, fun z => by simp [xkd, k] at z⟩
theorem w_P {cy : Nat → ClassId} {D : va_G} {b L : Nat} {xs : Nat → Int32} {E : Nat × Nat × Nat} : xP cy D s.heap.size (wSh b L E s.heap.size) (wVal b xs E) s.heap := by
  refine ⟨rfl, fun a => ?_⟩
  have h : xkd (wSh b L E s.heap.size) a = 0 ∨ 12 ≤ xkd (wSh b L E s.heap.size) a := by
    unfold xkd wSh
    dsimp only
    repeat' split
    all_goals simp
  rcases h with h | h
  · exact ⟨fun z => by omega, fun z => by omega, fun z => by omega, fun z => by omega⟩
  · exact ⟨fun _ z => by omega, fun _ z => by omega, fun _ z => by omega, fun _ z => by omega⟩
theorem w_oe {b L : Nat} {xs : Nat → Int32} {E : Nat × Nat × Nat} {T : Nat} (h : wAll s b L xs E) (hT : s.heap.size = T) {S' : xSh} {V' : xV} (ho : ∀ a, a < T → S'.1 a = (wSh b L E T).1 a ∧ V' a = wVal b xs E a) : oRep E S' V' T := by
  subst hT
  obtain ⟨-, -, -, l1, l2, l3, n1, n2, n3⟩ := h
  have k2 : S'.1 E.1 = (14, 7, fun _ => none) := by rw [(ho _ l2).1]; simp [wSh, n1]
  have k3 : S'.1 E.2.1 = (14, 7, fun _ => none) := by rw [(ho _ l3).1]; simp [wSh, n2]
  have e2 : ∀ j, V' E.1 j = wL j := fun j => by rw [(ho _ l2).2]; simp [wVal, n1]
  have e3 : ∀ j, V' E.2.1 j = wG j := fun j => by rw [(ho _ l3).2]; simp [wVal, n2, n3]
  exact ⟨by simp [xkd, k2], by simp [xln, k2], fun k _ => e2 k, by simp [xkd, k3], by simp [xln, k3], fun k _ => e3 k, l2, l3⟩
end STA
section STB
variable {p : Program} {e : Env} {s : State} {m : MethodId} {below : List Frame} {meth : Method} {c : Code}
theorem w_start {b L : Nat} {xs : Nat → Int32} (C0 : lw_At p s m meth c b L xs) : ∃ E : Nat × Nat × Nat, wAll s b L xs E ∧ xSo s.heap.size E s s.heap := by
  obtain ⟨hx, hb, hr, hml, hown, hts, hX, hbl, hlocks, hgv⟩ := C0
  have hs : ∀ w ∈ w_fl, w.before #[Value.ref b] s = true := flat_of_before _ hgv
  have hA : ∀ a : Nat, a < s.heap.size → ¬ xA s.heap.size a := fun a h => Nat.not_le.mpr h
  obtain ⟨f1, f2, f3, f4, f10, f11⟩ := w_more
  obtain ⟨aL, hL, lL, tL, rL⟩ := w_arr (f := wL) (Nat.le_of_ble_eq_true rfl) (hs _ f1) (hs _ f2) (fun j hj => hs _ (w_lo j hj)) hA
  obtain ⟨aG, hG, lG, tG, rG⟩ := w_arr (f := wG) (Nat.le_of_ble_eq_true rfl) (hs _ f3) (hs _ f4) (fun j hj => hs _ (w_gr j hj)) hA
  obtain ⟨scr, x1, x2, x3, x4, x5⟩ := hX
  have hb0 : (Term.arg 0).eval #[Value.ref b] s none [] s = some (.ref b) := rfl
  have tb : va_T .int b L (fun j => .int (xs j)) (xA s.heap.size) s s.heap := ⟨scr, x1, x2, x3, by omega, by rw [x4], x5, hA b hbl⟩
  have nGL : aG ≠ aL := by
    intro e
    subst e
    obtain ⟨c1, y1, -, -, -, -, y6, -⟩ := tL
    obtain ⟨c2, z1, -, -, -, -, z6, -⟩ := tG
    cases y1.symm.trans z1
    have h := (y6 6 (by decide)).symm.trans (z6 6 (by decide))
    have h2 : wL 6 = wG 6 := Value.int.inj (Option.some.inj h)
    exact absurd h2 (by decide)
  have hts0 : ∀ {i : Nat} {w : Cond}, lw_tbl[i]? = some w → w.before #[Value.ref b] s = true := fun h => hts _ (List.mem_of_getElem? h)
  refine ⟨(aL, aG, 0), ⟨tb, tL, tG, hbl, lL, lG, ?_, ?_, nGL⟩, ?_⟩
  · exact fun e => va_neR (hs _ f10) hb0 hL e.symm
  · exact fun e => va_neR (hs _ f11) hb0 hG e.symm
  · refine ⟨va_Zref (hts0 (i := 407) (by decide +kernel)) (hts0 (i := 7) (by decide +kernel)) hL hA, va_Zref (hts0 (i := 409) (by decide +kernel)) (hts0 (i := 7) (by decide +kernel)) hG hA, trivial, trivial, va_AO.of (hts0 (i := 30) (by decide +kernel)), va_AO.of (hts0 (i := 122) (by decide +kernel)), fun w hw => va_Nw.of ?_ (hts _ (xNw_tbl w hw))⟩
    rcases xNw_kind w hw with ⟨_, _, _, _, rfl⟩ | ⟨_, _, _, _, _, _, rfl⟩ <;> rfl
theorem w_Cx {cy : Nat → ClassId} {D : va_G} {E : Nat × Nat × Nat} {b L : Nat} {xs : Nat → Int32} (C0 : lw_At p s m meth c b L xs) (hK : va_K D vwCl (xtys cy) s) (hO : xSo s.heap.size E s s.heap) : xCx cy D s.heap.size E p room_1 s m #[Value.ref b] meth c mL_law := by
  obtain ⟨hx, hb, hr, hml, hown, hts, hX, hbl, hlocks, hgv⟩ := C0
  exact ⟨hx, hb, hml, hown, fun h => absurd h (by decide), fun w hw => hts w (List.mem_filter.mp hw).1, hK, hO, Nat.le_refl _, Nat.le_of_ble_eq_true rfl, Nat.le_of_ble_eq_true rfl⟩
theorem w_ret {cy : Nat → ClassId} {D : va_G} {b L : Nat} {xs : Nat → Int32} (l : Launch) (C0 : lw_At p s m meth c b L xs) {E : Nat × Nat × Nat} {S : xSh} {V : xV} {v : Int32} (hv : v = 1) (hT : S.2.1 - s.heap.size ≤ 600000) (hZ : S.2.2 ≤ 7302250) {pc : Nat} {ls : List (Option Value)} {st : List Value} (hs : xstep E mL_law pc ls st S V = some (.inr (.inl (some (.int v))))) : xG cy D s.heap.size p l e room_1 s m #[Value.ref b] below meth c (lw_Z below #[Value.ref b] s) 15 s.heap.size 0 pc ls st S V := by
  subst hv
  obtain ⟨hx, hb, hr, hml, hown, hts, hX, hbl, hlocks, hgv⟩ := C0
  intro H locs lsA hP hS hE hl
  unfold xstep at hs
  cases hd : decode mL_law.2.1 pc with
  | error x => rw [hd] at hs; cases hs
  | ok ik =>
  obtain ⟨i, kk⟩ := ik
  rw [hd] at hs
  dsimp only at hs
  cases i
  case ireturn =>
    simp only [xdo] at hs
    split at hs
    · rename_i hk1
      subst hk1
      split at hs
      · split at hs
        · split at hs
          · cases hs
            exact va_forget (fun q hq => hS.2.2 q hq) (W.widen hT (by omega) (lw_ret hx hb hr hlocks hd))
          · cases hs
        · cases hs
      · cases hs
    · cases hs
  all_goals (exfalso; simp only [xdo, xgo, xoff, xcall] at hs; repeat' (split at hs))
  all_goals cases hs
/-- the law from its entry -/
theorem whole_start (l : Launch) (hflags : l.flags = flags0) {b L : Nat} {xs : Nat → Int32} (hL : L ≤ 260) (C0 : lw_At p s m meth c b L xs) : W p l e room_1 s m #[Value.ref b] below meth c s.heap [] 0 0 (lw_Z below #[Value.ref b] s) (entryFrame m ([Value.ref b] : List Value).toArray 15) := by
  obtain ⟨E, hA, hO⟩ := w_start C0
  obtain ⟨D, cy, hK⟩ := w_K (args := #[Value.ref b]) (s := s) (fun w hw => C0.2.2.2.2.2.1 w (List.mem_filter.mp hw).1) ⟨hO.2.2.2.2.1, hO.2.2.2.2.2.1⟩
  have hC := w_Cx C0 hK hO
  obtain ⟨n, r, hrun, h1, h2, h3⟩ : xX E mL_law 0 [some (.ref b), none, none, none, none, none, none, none, none, none, none, none, none, none, none] [] (wSh b L E s.heap.size) (wVal b xs E) (fun v' S' V' => v' = some (.int (nI 1)) ∧ S'.2.1 = s.heap.size + 449 ∧ S'.2.2 = 4470) :=
    law_all (L := L) (by simp [wSh, xkd]) (by simp [wSh, xln]) (by omega) hA.2.2.2.1 (fun S' V' ho => w_oe hA rfl ho) (fun S' V' e1 e2 => ⟨rfl, e1, by rw [e2]; exact Nat.zero_add _⟩)
  obtain ⟨rv, rS, rV⟩ := r
  dsimp only at h1 h2 h3
  subst h1
  have main := xrun_ok (l := l) (e := e) (below := below) (Q := lw_Z below #[Value.ref b] s) (T0 := s.heap.size) (Z0 := 0) hC (r := (some (.int (nI 1)), rS, rV))
    (fun pc ls st S V v' hs he => by
      cases he
      exact w_ret l C0 rfl (by omega) (by omega) hs)
    (fun y as S V n r hok _ hln hr => xsound l cy D s.heap.size E (xht y + 1) y (Nat.lt_succ_self _) hok as S V n r hln hr)
    ⟨by show rS.2.1 - s.heap.size ≤ 600000; omega, by show rS.2.2 - 0 ≤ 7302250; omega⟩ n 0 _ [] _ _ hrun (Nat.le_refl _) (Nat.le_refl _)
  rw [lg_entry_eq]
  have k0 := main s.heap [] _ w_P va_S.rf (w_Ex hA) (xLo_entry [.ref b] (n := 15) (show 1 ≤ 15 by decide))
  rw [show (wSh b L E s.heap.size).2.1 - s.heap.size = 0 from Nat.sub_self _, show (wSh b L E s.heap.size).2.2 - 0 = 0 from rfl] at k0
  exact k0
end STB
