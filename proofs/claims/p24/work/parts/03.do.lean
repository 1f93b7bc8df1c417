def xown (m : xM) : Nat := m.2.2.2.2.1
def xht (m : xM) : Nat := m.2.2.2.2.2
def xkey (m : xM) (x : Nat) : Nat × Nat := (xown m, x)
/-- the kind of a class's objects, by the class's number -/
def xkdo (o : Nat) : Nat := if o = 7 then 13 else o + 1
def xcall (m y : xM) (n : Nat) (as rest st : List Value) : Option xStep :=
  if n ≤ st.length ∧ xcat rest ≤ 8 ∧ xht y < xht m ∧ (xargs as).length ≤ y.2.2.1 then some (.inr (.inr (y, as, rest))) else none
def xdo (E : Nat × Nat × Nat) (m : xM) (i : Instr) (k pc : Nat) (ls : List (Option Value)) (st : List Value) (S : xSh) (V : xV) : Option xStep :=
  match i with
  | .iconst n => if k = 1 then xgo (pc + 1) ls (.int (Int32.ofInt n) :: st) S V else none
  | .bipush n => if k = 2 then xgo (pc + 2) ls (.int (Int8.ofInt n).toInt32 :: st) S V else none
  | .sipush n => if k = 3 then xgo (pc + 3) ls (.int (Int16.ofInt n).toInt32 :: st) S V else none
  | .lconst n => if k = 1 then xgo (pc + 1) ls (.long (Int64.ofNat (n : Nat)) :: st) S V else none
  | .ldc x => if k = 2 then (match xassoc xIt (xkey m x) with
      | some v => xgo (pc + 2) ls (.int v :: st) S V
      | none => none) else none
  | .ldc_w x => if k = 3 then (match xassoc xIt (xkey m x) with
      | some v => xgo (pc + 3) ls (.int v :: st) S V
      | none => none) else none
  | .ldc2_w x => if k = 3 then (match xassoc xJt (xkey m x) with
      | some v => xgo (pc + 3) ls (.long v :: st) S V
      | none => none) else none
  | .iload_n j => if k = 1 then (match xlocAt ls (j : Nat) with
      | some (.int x) => xgo (pc + 1) ls (.int x :: st) S V
      | _ => none) else none
  | .iload j => if k = 2 then (match xlocAt ls j with
      | some (.int x) => xgo (pc + 2) ls (.int x :: st) S V
      | _ => none) else none
  | .lload_n j => if k = 1 then (match xlocAt ls (j : Nat) with
      | some (.long x) => xgo (pc + 1) ls (.long x :: st) S V
      | _ => none) else none
  | .lload j => if k = 2 then (match xlocAt ls j with
      | some (.long x) => xgo (pc + 2) ls (.long x :: st) S V
      | _ => none) else none
  | .aload_n j => if k = 1 then (match xlocAt ls (j : Nat) with
      | some (.ref x) => xgo (pc + 1) ls (.ref x :: st) S V
      | _ => none) else none
  | .aload j => if k = 2 then (match xlocAt ls j with
      | some (.ref x) => xgo (pc + 2) ls (.ref x :: st) S V
      | _ => none) else none
  | .istore_n j => if k = 1 then (match st with
      | .int x :: st => if (j : Nat) < ls.length then xgo (pc + 1) (xst1 ls (j : Nat) (.int x)) st S V else none
      | _ => none) else none
  | .istore j => if k = 2 then (match st with
      | .int x :: st => if j < ls.length then xgo (pc + 2) (xst1 ls j (.int x)) st S V else none
      | _ => none) else none
  | .lstore_n j => if k = 1 then (match st with
      | .long x :: st => if (j : Nat) + 1 < ls.length then xgo (pc + 1) (xst2 ls (j : Nat) (.long x)) st S V else none
      | _ => none) else none
  | .lstore j => if k = 2 then (match st with
      | .long x :: st => if j + 1 < ls.length then xgo (pc + 2) (xst2 ls j (.long x)) st S V else none
      | _ => none) else none
  | .astore_n j => if k = 1 then (match st with
      | .ref x :: st => if (j : Nat) < ls.length then xgo (pc + 1) (xst1 ls (j : Nat) (.ref x)) st S V else none
      | _ => none) else none
  | .astore j => if k = 2 then (match st with
      | .ref x :: st => if j < ls.length then xgo (pc + 2) (xst1 ls j (.ref x)) st S V else none
      | _ => none) else none
  | .iinc j n => if k = 3 then (match xlocAt ls j with
      | some (.int x) => if j < ls.length then xgo (pc + 3) (xst1 ls j (.int (x + Int32.ofInt n))) st S V else none
      | _ => none) else none
  | .iadd => if k = 1 then (match st with
      | .int y :: .int x :: st => xgo (pc + 1) ls (.int (x + y) :: st) S V
      | _ => none) else none
  | .isub => if k = 1 then (match st with
      | .int y :: .int x :: st => xgo (pc + 1) ls (.int (x - y) :: st) S V
      | _ => none) else none
  | .imul => if k = 1 then (match st with
      | .int y :: .int x :: st => xgo (pc + 1) ls (.int (x * y) :: st) S V
      | _ => none) else none
  | .iand => if k = 1 then (match st with
      | .int y :: .int x :: st => xgo (pc + 1) ls (.int (x &&& y) :: st) S V
      | _ => none) else none
  | .ior => if k = 1 then (match st with
      | .int y :: .int x :: st => xgo (pc + 1) ls (.int (x ||| y) :: st) S V
      | _ => none) else none
  | .ixor => if k = 1 then (match st with
      | .int y :: .int x :: st => xgo (pc + 1) ls (.int (x ^^^ y) :: st) S V
      | _ => none) else none
  | .ishl => if k = 1 then (match st with
      | .int y :: .int x :: st => xgo (pc + 1) ls (.int (x <<< (y &&& 31)) :: st) S V
      | _ => none) else none
  | .ishr => if k = 1 then (match st with
      | .int y :: .int x :: st => xgo (pc + 1) ls (.int (x >>> (y &&& 31)) :: st) S V
      | _ => none) else none
  | .iushr => if k = 1 then (match st with
      | .int y :: .int x :: st => xgo (pc + 1) ls (.int (x.toUInt32 >>> (y.toUInt32 &&& Int32.toUInt32 31)).toInt32 :: st) S V
      | _ => none) else none
  | .irem => if k = 1 then (match st with
      | .int y :: .int x :: st => if y = 0 then none else xgo (pc + 1) ls (.int (x - x / y * y) :: st) S V
      | _ => none) else none
  | .idiv => if k = 1 then (match st with
      | .int y :: .int x :: st => if y = 0 then none else xgo (pc + 1) ls (.int (x / y) :: st) S V
      | _ => none) else none
  | .ladd => if k = 1 then (match st with
      | .long y :: .long x :: st => xgo (pc + 1) ls (.long (x + y) :: st) S V
      | _ => none) else none
  | .lmul => if k = 1 then (match st with
      | .long y :: .long x :: st => xgo (pc + 1) ls (.long (x * y) :: st) S V
      | _ => none) else none
  | .land => if k = 1 then (match st with
      | .long y :: .long x :: st => xgo (pc + 1) ls (.long (x &&& y) :: st) S V
      | _ => none) else none
  | .lor => if k = 1 then (match st with
      | .long y :: .long x :: st => xgo (pc + 1) ls (.long (x ||| y) :: st) S V
      | _ => none) else none
  | .lshl => if k = 1 then (match st with
      | .int y :: .long x :: st => xgo (pc + 1) ls (.long (x <<< (y.toInt64 &&& 63)) :: st) S V
      | _ => none) else none
  | .lushr => if k = 1 then (match st with
      | .int y :: .long x :: st => xgo (pc + 1) ls (.long (x.toUInt64 >>> (y.toInt64.toUInt64 &&& Int64.toUInt64 63)).toInt64 :: st) S V
      | _ => none) else none
  | .lcmp => if k = 1 then (match st with
      | .long y :: .long x :: st => xgo (pc + 1) ls (.int (lg_cmp x y) :: st) S V
      | _ => none) else none
  | .i2l => if k = 1 then (match st with
      | .int x :: st => xgo (pc + 1) ls (.long x.toInt64 :: st) S V
      | _ => none) else none
  | .l2i => if k = 1 then (match st with
      | .long x :: st => xgo (pc + 1) ls (.int x.toInt32 :: st) S V
      | _ => none) else none
  | .i2c => if k = 1 then (match st with
      | .int x :: st => xgo (pc + 1) ls (.int (x.toUInt32 % 65536).toInt32 :: st) S V
      | _ => none) else none
  | .i2b => if k = 1 then (match st with
      | .int x :: st => xgo (pc + 1) ls (.int x.toInt8.toInt32 :: st) S V
      | _ => none) else none
  | .dup => if k = 1 then (match st with
      | v :: st => if v.category = 1 then xgo (pc + 1) ls (v :: v :: st) S V else none
      | _ => none) else none
  | .dup2 => if k = 1 then (match st with
      | v :: w :: st => if v.category = 1 ∧ w.category = 1 then xgo (pc + 1) ls (v :: w :: v :: w :: st) S V else none
      | _ => none) else none
  | .pop => if k = 1 then (match st with
      | v :: st => if v.category = 1 then xgo (pc + 1) ls st S V else none
      | _ => none) else none
  | .ifCond c off => if k = 3 then (match st with
      | .int x :: st => if xcb c x 0 = true then xoff pc off ls st S V else xgo (pc + 3) ls st S V
      | _ => none) else none
  | .if_icmp c off => if k = 3 then (match st with
      | .int y :: .int x :: st => if xcb c x y = true then xoff pc off ls st S V else xgo (pc + 3) ls st S V
      | _ => none) else none
  | .goto off => if k = 3 then xoff pc off ls st S V else none
  | .tableswitch d lo hi offs => match st with
      | .int x :: st => if x.toInt < lo ∨ hi < x.toInt then xoff pc d ls st S V else (match offs[(x.toInt - lo).toNat]? with
        | some off => xoff pc off ls st S V
        | none => none)
      | _ => none
  | .lookupswitch d ps => match st with
      | .int x :: st => if (ps.toList.zip (ps.toList.drop 1)).all (fun (a, next) => a.1 < next.1) = true then xoff pc (Op.lookupswitch.offset ps.toList d x.toInt) ls st S V else none
      | _ => none
  | .getfield x => if k = 3 then (match st with
      | .ref a :: st => (match xassoc xFt (xkey m x) with
        | some (kd, j) => if xkd S a = kd then xgo (pc + 3) ls ((if xisR kd j = true then va_rf (xrf S a j) else .int (V a j)) :: st) S V else none
        | none => none)
      | _ => none) else none
  | .putfield x => if k = 3 then (match xassoc xFt (xkey m x) with
      | some (kd, j) => (match st with
        | .int v :: .ref a :: st => if xkd S a = kd ∧ kd ≤ 6 ∧ xisR kd j = false ∧ (xisZ kd j = true → v = 0 ∨ v = 1) then xgo (pc + 3) ls st S (xup V a j v) else none
        | .ref v :: .ref a :: st => if xkd S a = kd ∧ kd ≤ 6 ∧ xisR kd j = true ∧ m.1.name = "<init>" ∧ xown m + 1 = kd then xgo (pc + 3) ls st (xsetr S a j (some v)) V else none
        | _ => none)
      | none => none) else none
  | .getstatic x => if k = 3 then (match xassoc xSt (xkey m x) with
      | some 0 => xgo (pc + 3) ls (.ref E.1 :: st) S V
      | some 1 => xgo (pc + 3) ls (.ref E.2.1 :: st) S V
      | _ => none) else none
  | .iaload => if k = 1 then (match st with
      | .int j :: .ref a :: st => if (xkd S a = 7 ∨ xkd S a = 14) ∧ ¬ (j < 0 ∨ xln S a ≤ j.toNatClampNeg) then xgo (pc + 1) ls (.int (V a j.toNatClampNeg) :: st) S V else none
      | _ => none) else none
  | .baload => if k = 1 then (match st with
      | .int j :: .ref a :: st => if (xkd S a = 9 ∨ xkd S a = 12) ∧ ¬ (j < 0 ∨ xln S a ≤ j.toNatClampNeg) then xgo (pc + 1) ls (.int (V a j.toNatClampNeg) :: st) S V else none
      | _ => none) else none
  | .caload => if k = 1 then (match st with
      | .int j :: .ref a :: st => if xkd S a = 8 ∧ ¬ (j < 0 ∨ xln S a ≤ j.toNatClampNeg) then xgo (pc + 1) ls (.int (V a j.toNatClampNeg) :: st) S V else none
      | _ => none) else none
  | .aaload => if k = 1 then (match st with
      | .int j :: .ref a :: st => if (xkd S a = 10 ∨ xkd S a = 11) ∧ ¬ (j < 0 ∨ xln S a ≤ j.toNatClampNeg) then xgo (pc + 1) ls (va_rf (xrf S a j.toNatClampNeg) :: st) S V else none
      | _ => none) else none
  | .iastore => if k = 1 then (match st with
      | .int v :: .int j :: .ref a :: st => if xkd S a = 7 ∧ ¬ (j < 0 ∨ xln S a ≤ j.toNatClampNeg) then xgo (pc + 1) ls st S (xup V a j.toNatClampNeg v) else none
      | _ => none) else none
  | .bastore => if k = 1 then (match st with
      | .int v :: .int j :: .ref a :: st => if xkd S a = 9 ∧ ¬ (j < 0 ∨ xln S a ≤ j.toNatClampNeg) then xgo (pc + 1) ls st S (xup V a j.toNatClampNeg (vp_nar .boolean v)) else none
      | _ => none) else none
  | .castore => if k = 1 then (match st with
      | .int v :: .int j :: .ref a :: st => if xkd S a = 8 ∧ ¬ (j < 0 ∨ xln S a ≤ j.toNatClampNeg) then xgo (pc + 1) ls st S (xup V a j.toNatClampNeg (vp_nar .char v)) else none
      | _ => none) else none
  | .aastore => if k = 1 then (match st with
      | .ref v :: .int j :: .ref a :: st => if ((xkd S a = 10 ∧ xkd S v = 1) ∨ (xkd S a = 11 ∧ xkd S v = 3)) ∧ ¬ (j < 0 ∨ xln S a ≤ j.toNatClampNeg) then xgo (pc + 1) ls st (xsetr S a j.toNatClampNeg (some v)) V else none
      | _ => none) else none
  | .arraylength => if k = 1 then (match st with
      | .ref a :: st => if (7 ≤ xkd S a ∧ xkd S a ≤ 12) ∨ xkd S a = 14 then xgo (pc + 1) ls (.int (Int32.ofNat (xln S a)) :: st) S V else none
      | _ => none) else none
  | .newarray t => if k = 2 then (match st with
      | .int n :: st => if n < 0 then none else if n.toNatClampNeg ≤ 10000 then (match t with
        | .int => xgo (pc + 2) ls (.ref S.2.1 :: st) (xnew S 7 n.toNatClampNeg n.toNatClampNeg) (xrow V S.2.1 (fun _ => 0))
        | .char => xgo (pc + 2) ls (.ref S.2.1 :: st) (xnew S 8 n.toNatClampNeg n.toNatClampNeg) (xrow V S.2.1 (fun _ => 0))
        | .boolean => xgo (pc + 2) ls (.ref S.2.1 :: st) (xnew S 9 n.toNatClampNeg n.toNatClampNeg) (xrow V S.2.1 (fun _ => 0))
        | _ => none) else none
      | _ => none) else none
  | .anewarray x => if k = 3 then (match st with
      | .int n :: st => if n < 0 then none else if n.toNatClampNeg ≤ 10000 then (match xassoc xKt (xkey m x) with
        | some 0 => xgo (pc + 3) ls (.ref S.2.1 :: st) (xnew S 10 n.toNatClampNeg n.toNatClampNeg) (xrow V S.2.1 (fun _ => 0))
        | some 2 => xgo (pc + 3) ls (.ref S.2.1 :: st) (xnew S 11 n.toNatClampNeg n.toNatClampNeg) (xrow V S.2.1 (fun _ => 0))
        | _ => none) else none
      | _ => none) else none
  | .new x => if k = 3 then (match xassoc xKt (xkey m x) with
      | some ci => xgo (pc + 3) ls (.ref S.2.1 :: st) (xnew S (ci + 1) 0 (xN (ci + 1))) (xrow V S.2.1 (fun _ => 0))
      | none => none) else none
  | .ireturn => if k = 1 then (match st with
      | [.int v] => (match m.2.2.2.1 with
        | some ty => if narrow ty (.int v) = .int v then some (.inr (.inl (some (.int v)))) else none
        | none => none)
      | _ => none) else none
  | .lreturn => if k = 1 then (match st with
      | [.long v] => (match m.2.2.2.1 with
        | some .long => some (.inr (.inl (some (.long v))))
        | _ => none)
      | _ => none) else none
  | .areturn => if k = 1 then (match st with
      | [.ref a] => (match m.2.2.2.1 with
        | some (.object _) => some (.inr (.inl (some (.ref a))))
        | some (.array _) => some (.inr (.inl (some (.ref a))))
        | _ => none)
      | _ => none) else none
  | .return_ => if k = 1 then (match st with
      | [] => (match m.2.2.2.1 with
        | none => some (.inr (.inl none))
        | some _ => none)
      | _ => none) else none
  | .invokevirtual x => if k = 3 then (match xassoc xCt (xkey m x) with
      | some (y, n, 0) => (match st.drop n with
        | .ref b :: rest => if xkd S b = xkdo (xown y) then xcall m y n (.ref b :: (st.take n).reverse) rest st else none
        | _ => none)
      | _ => none) else none
  | .invokestatic x => if k = 3 then (match xassoc xCt (xkey m x) with
      | some (y, n, 1) => xcall m y n (st.take n).reverse (st.drop n) st
      | some (y, n, 3) => xcall m y n (st.take n).reverse (st.drop n) st
      | some _ => none
      | none => match xassoc xMt (xkey m x) with
      | some 0 => (match st with
        | .int w :: .int v :: st => if xcat st ≤ 8 ∧ 0 < xht m then xgo (pc + 3) ls (.int (if v < w then w else v) :: st) S V else none
        | _ => none)
      | some _ => none
      | none => if xkey m x ∈ xAt then (match st with
        | .int n :: .int dp :: .ref a :: .int sp :: .ref a0 :: st => if xkd S a0 = 7 ∧ xkd S a = 7 ∧ (¬ sp < 0 ∧ ¬ dp < 0 ∧ ¬ n < 0) ∧ sp.toNatClampNeg + n.toNatClampNeg ≤ xln S a0 ∧ dp.toNatClampNeg + n.toNatClampNeg ≤ xln S a ∧ xcat st ≤ 8 ∧ 0 < xht m then
            xgo (pc + 3) ls st S (xrow V a (va_cpy (V a0) (V a) sp.toNatClampNeg dp.toNatClampNeg n.toNatClampNeg)) else none
        | _ => none) else none) else none
  | .invokespecial x => if k = 3 then (match xassoc xCt (xkey m x) with
      | some (y, n, 2) => (match st.drop n with
        | .ref b :: rest => xcall m y n (.ref b :: (st.take n).reverse) rest st
        | _ => none)
      | some (y, n, 4) => (match st.drop n with
        | .ref b :: rest => xcall m y n (.ref b :: (st.take n).reverse) rest st
        | _ => none)
      | some _ => none
      | none => if xkey m x ∈ xOt then (match st with
        | .ref b :: st => if xcat st ≤ 8 ∧ 0 < xht m then xgo (pc + 3) ls st S V else none
        | _ => none) else none) else none
  | _ => none
def xstep (E : Nat × Nat × Nat) (m : xM) (pc : Nat) (ls : List (Option Value)) (st : List Value) (S : xSh) (V : xV) : Option xStep := match decode m.2.1 pc with
  | .ok (i, k) => xdo E m i k pc ls st S V
  | .error _ => none
def xrun (E : Nat × Nat × Nat) : Nat → xM → Nat → List (Option Value) → List Value → xSh → xV → Option (Option Value × xSh × xV)
  | 0, _, _, _, _, _, _ => none
  | n + 1, m, pc, ls, st, S, V => match xstep E m pc ls st S V with
    | none => none
    | some (.inl q) => xrun E n m q.1 q.2.1 q.2.2.1 q.2.2.2.1 q.2.2.2.2
    | some (.inr (.inl v)) => some (v, S, V)
    | some (.inr (.inr q)) => match xrun E n q.1 0 (xlocs q.1.2.2.1 q.2.1) [] S V with
      | none => none
      | some r => xrun E n m (pc + 3) ls (r.1.toList ++ q.2.2) r.2.1 r.2.2
theorem xrun_mono (E : Nat × Nat × Nat) : ∀ (n : Nat) {m : xM} {pc : Nat} {ls : List (Option Value)} {st : List Value} {S : xSh} {V : xV} {r : Option Value × xSh × xV}, xrun E n m pc ls st S V = some r → xrun E (n + 1) m pc ls st S V = some r := by
  intro n
  induction n with
  | zero => intro m pc ls st S V r h; cases h
  | succ n ih =>
    intro m pc ls st S V r h
    rw [xrun] at h ⊢
    cases hs : xstep E m pc ls st S V with
    | none => rw [hs] at h; cases h
    | some q =>
      rw [hs] at h
      obtain q | v | q := q
      · exact ih h
      · exact h
      · dsimp only at h ⊢
        cases hc : xrun E n q.1 0 (xlocs q.1.2.2.1 q.2.1) [] S V with
        | none => rw [hc] at h; cases h
        | some r1 =>
          rw [hc] at h
          rw [ih hc]
          exact ih h
theorem xrun_le (E : Nat × Nat × Nat) {n n' : Nat} (hn : n ≤ n') {m : xM} {pc : Nat} {ls : List (Option Value)} {st : List Value} {S : xSh} {V : xV} {r : Option Value × xSh × xV} (h : xrun E n m pc ls st S V = some r) : xrun E n' m pc ls st S V = some r := by
  induction hn with
  | refl => exact h
  | step _ ih => exact xrun_mono E _ ih
/-- from here the method comes to a return with Q -/
def xX (E : Nat × Nat × Nat) (m : xM) (pc : Nat) (ls : List (Option Value)) (st : List Value) (S : xSh) (V : xV) (Q : Option Value → xSh → xV → Prop) : Prop :=
  ∃ (n : Nat) (r : Option Value × xSh × xV), xrun E n m pc ls st S V = some r ∧ Q r.1 r.2.1 r.2.2
/-- a call of a method -/
def xC (E : Nat × Nat × Nat) (m : xM) (as : List Value) (S : xSh) (V : xV) (Q : Option Value → xSh → xV → Prop) : Prop := xX E m 0 (xlocs m.2.2.1 as) [] S V Q
theorem xX_next {E : Nat × Nat × Nat} {m : xM} {pc pc' : Nat} {ls ls' : List (Option Value)} {st st' : List Value} {S S' : xSh} {V V' : xV} {Q : Option Value → xSh → xV → Prop} (h : xstep E m pc ls st S V = some (.inl (pc', ls', st', S', V'))) :
    xX E m pc ls st S V Q ↔ xX E m pc' ls' st' S' V' Q := by
  constructor
  · rintro ⟨n, r, h1, h2⟩
    cases n with
    | zero => cases h1
    | succ n =>
      rw [xrun, h] at h1
      exact ⟨n, r, h1, h2⟩
  · rintro ⟨n, r, h1, h2⟩
    exact ⟨n + 1, r, by rw [xrun, h]; exact h1, h2⟩
theorem xX_ret {E : Nat × Nat × Nat} {m : xM} {pc : Nat} {ls : List (Option Value)} {st : List Value} {S : xSh} {V : xV} {Q : Option Value → xSh → xV → Prop} {v : Option Value} (h : xstep E m pc ls st S V = some (.inr (.inl v))) :
    xX E m pc ls st S V Q ↔ Q v S V := by
  constructor
  · rintro ⟨n, r, h1, h2⟩
    cases n with
    | zero => cases h1
    | succ n =>
      rw [xrun, h] at h1
      cases h1
      exact h2
  · intro h2
    exact ⟨1, (v, S, V), by rw [xrun, h], h2⟩
theorem xX_call {E : Nat × Nat × Nat} {m : xM} {pc : Nat} {ls : List (Option Value)} {st : List Value} {S : xSh} {V : xV} {Q : Option Value → xSh → xV → Prop} {y : xM} {as rest : List Value} (h : xstep E m pc ls st S V = some (.inr (.inr (y, as, rest)))) :
    xX E m pc ls st S V Q ↔ xC E y as S V (fun v S' V' => xX E m (pc + 3) ls (v.toList ++ rest) S' V' Q) := by
  constructor
  · rintro ⟨n, r, h1, h2⟩
    cases n with
    | zero => cases h1
    | succ n =>
      rw [xrun, h] at h1
      dsimp only at h1
      cases hc : xrun E n y 0 (xlocs y.2.2.1 as) [] S V with
      | none => rw [hc] at h1; cases h1
      | some r1 =>
        rw [hc] at h1
        exact ⟨n, r1, hc, n, r, h1, h2⟩
  · rintro ⟨n1, r1, hc, n2, r, h1, h2⟩
    refine ⟨max n1 n2 + 1, r, ?_, h2⟩
    rw [xrun, h]
    dsimp only
    rw [xrun_le E (Nat.le_max_left n1 n2) hc]
    exact xrun_le E (Nat.le_max_right n1 n2) h1
theorem xX_mono {E : Nat × Nat × Nat} {m : xM} {pc : Nat} {ls : List (Option Value)} {st : List Value} {S : xSh} {V : xV} {Q Q' : Option Value → xSh → xV → Prop} (h : xX E m pc ls st S V Q) (hq : ∀ v S' V', Q v S' V' → Q' v S' V') : xX E m pc ls st S V Q' := by
  obtain ⟨n, r, h1, h2⟩ := h
  exact ⟨n, r, h1, hq _ _ _ h2⟩
