/-! ===== the pure machine's instructions, as rewriting rules ===== -/
section XI
variable {E : Nat × Nat × Nat} {m : xM} {pc : Nat} {ls : List (Option Value)} {st : List Value} {S : xSh} {V : xV} {Q : Option Value → xSh → xV → Prop}
theorem xi {i : Instr} {k pc' : Nat} {ls' : List (Option Value)} {st' : List Value} {S' : xSh} {V' : xV} (hd : decode m.2.1 pc = .ok (i, k)) (hx : xdo E m i k pc ls st S V = some (.inl (pc', ls', st', S', V'))) : xX E m pc ls st S V Q ↔ xX E m pc' ls' st' S' V' Q :=
  xX_next (by rw [xstep, hd]; exact hx)
theorem xi_r {i : Instr} {k : Nat} {v : Option Value} (hd : decode m.2.1 pc = .ok (i, k)) (hx : xdo E m i k pc ls st S V = some (.inr (.inl v))) : xX E m pc ls st S V Q ↔ Q v S V :=
  xX_ret (by rw [xstep, hd]; exact hx)
theorem xi_off {off : Int} {tgt : Nat} (ht : (pc : Int) + off = (tgt : Int)) : xoff pc off ls st S V = some (.inl (tgt, ls, st, S, V)) := by
  unfold xoff xgo
  rw [ht, if_pos (Int.natCast_nonneg tgt), Int.toNat_natCast]
theorem xi_br {i : Instr} {k t1 t2 : Nat} {c : Prop} {d : Decidable c} {st0 : List Value} (hd : decode m.2.1 pc = .ok (i, k)) (h1 : c → xdo E m i k pc ls st0 S V = some (.inl (t1, ls, st, S, V))) (h2 : ¬ c → xdo E m i k pc ls st0 S V = some (.inl (t2, ls, st, S, V))) :
    xX E m pc ls st0 S V Q ↔ if c then xX E m t1 ls st S V Q else xX E m t2 ls st S V Q := by
  by_cases h : c
  · rw [if_pos h]; exact xi hd (h1 h)
  · rw [if_neg h]; exact xi hd (h2 h)
theorem xi_goto {off : Int} {tgt : Nat} (hd : decode m.2.1 pc = .ok (.goto off, 3)) (ht : (pc : Int) + off = (tgt : Int)) : xX E m pc ls st S V Q ↔ xX E m tgt ls st S V Q := xi hd (xi_off ht)
theorem xi_if {cc : Jvm.ClassFile.Cond} {off : Int} {tgt : Nat} {x : Int32} {c : Prop} {d : Decidable c} (hd : decode m.2.1 pc = .ok (.ifCond cc off, 3)) (ht : (pc : Int) + off = (tgt : Int)) (hc : xcb cc x 0 = true ↔ c) : xX E m pc ls (.int x :: st) S V Q ↔ if c then xX E m tgt ls st S V Q else xX E m (pc + 3) ls st S V Q :=
  xi_br hd (fun h => (if_pos (hc.mpr h)).trans (xi_off ht)) (fun h => if_neg (fun z => h (hc.mp z)))
theorem xi_icmp {cc : Jvm.ClassFile.Cond} {off : Int} {tgt : Nat} {x y : Int32} {c : Prop} {d : Decidable c} (hd : decode m.2.1 pc = .ok (.if_icmp cc off, 3)) (ht : (pc : Int) + off = (tgt : Int)) (hc : xcb cc x y = true ↔ c) : xX E m pc ls (.int y :: .int x :: st) S V Q ↔ if c then xX E m tgt ls st S V Q else xX E m (pc + 3) ls st S V Q :=
  xi_br hd (fun h => (if_pos (hc.mpr h)).trans (xi_off ht)) (fun h => if_neg (fun z => h (hc.mp z)))
theorem xcb_eq {x y : Int32} : xcb .eq x y = true ↔ x = y := decide_eq_true_iff
theorem xcb_ne {x y : Int32} : xcb .ne x y = true ↔ ¬ x = y := decide_eq_true_iff
theorem xcb_lt {x y : Int32} : xcb .lt x y = true ↔ x < y := decide_eq_true_iff
theorem xcb_ge {x y : Int32} : xcb .ge x y = true ↔ y ≤ x := decide_eq_true_iff
theorem xcb_gt {x y : Int32} : xcb .gt x y = true ↔ y < x := decide_eq_true_iff
theorem xcb_le {x y : Int32} : xcb .le x y = true ↔ x ≤ y := decide_eq_true_iff
/-- a local that is no long -/
def xnl (o : Option Value) : Bool := match o with
  | some v => v.category == 1
  | none => true
theorem xnl_n : xnl none = true := rfl
theorem xnl_i (x : Int32) : xnl (some (.int x)) = true := rfl
theorem xnl_r (x : Nat) : xnl (some (.ref x)) = true := rfl
theorem xst1_z (o : Option Value) (l : List (Option Value)) (v : Value) : xst1 (o :: l) 0 v = some v :: l := rfl
theorem xst1_s {ls : List (Option Value)} {j : Nat} {o : Option Value} (h : ls[j]? = some o) (ho : xnl o = true) (v : Value) : xst1 ls (j + 1) v = ls.set (j + 1) (some v) := by
  unfold xst1
  cases o with
  | none =>
    rw [xclr_none]
    unfold xlocAt
    rw [h]
  | some w =>
    have hw : w.category = 1 := by simpa [xnl] using ho
    rw [xclr_some (v := w) (xlocAt_iff.mpr h), if_neg (by omega)]
theorem xst2_s {ls : List (Option Value)} {j : Nat} {o : Option Value} (h : ls[j]? = some o) (ho : xnl o = true) (v : Value) : xst2 ls (j + 1) v = (ls.set (j + 1) (some v)).set (j + 2) none := by
  unfold xst2
  have h1 := xst1_s h ho v
  unfold xst1 at h1
  rw [h1]
theorem xi_st1 {i : Instr} {k j : Nat} {o : Option Value} {pc' : Nat} {v : Value} {st0 : List Value} {ls' : List (Option Value)} (hd : decode m.2.1 pc = .ok (i, k)) (hj : ls[j]? = some o) (ho : xnl o = true) (hx : xdo E m i k pc ls st0 S V = some (.inl (pc', xst1 ls (j + 1) v, st, S, V))) (hl : ls.set (j + 1) (some v) = ls') : xX E m pc ls st0 S V Q ↔ xX E m pc' ls' st S V Q := by
  rw [← hl, ← xst1_s hj ho v]
  exact xi hd hx
theorem xi_st2 {i : Instr} {k j : Nat} {o : Option Value} {pc' : Nat} {v : Value} {st0 : List Value} {ls' : List (Option Value)} (hd : decode m.2.1 pc = .ok (i, k)) (hj : ls[j]? = some o) (ho : xnl o = true) (hx : xdo E m i k pc ls st0 S V = some (.inl (pc', xst2 ls (j + 1) v, st, S, V))) (hl : (ls.set (j + 1) (some v)).set (j + 2) none = ls') : xX E m pc ls st0 S V Q ↔ xX E m pc' ls' st S V Q := by
  rw [← hl, ← xst2_s hj ho v]
  exact xi hd hx
/-! ints by their numbers -/
theorem xn_m : (-(1 : Int32)) = -1 := rfl
theorem xn_sub {a b : Nat} (h : b ≤ a) : nI a - nI b = nI (a - b) := pk_sub h
theorem xn_rem {a b : Nat} (ha : a < 2147483648) (h0 : 0 < b) (hb : b < 2147483648) : nI a - nI a / nI b * nI b = nI (a % b) := pk_rem ha h0 hb
theorem xn_31 : ∀ k : Nat, k < 32 → nI k &&& 31 = nI k := by decide +kernel
theorem xn_sm : ∀ k : Nat, k < 32 → ((nI k).toBitVec.smod 32).toNat = k := by decide +kernel
theorem xn_shl {a k : Nat} (hk : k < 32) (h : a * 2 ^ k < 4294967296) : nI a <<< (nI k &&& 31) = nI (a * 2 ^ k) := by
  rw [xn_31 k hk]
  exact pk_shlN (nI k) k (xn_sm k hk) h
theorem xn_shr {a k : Nat} (ha : a < 2147483648) (hk : k < 32) : nI a >>> (nI k &&& 31) = nI (a / 2 ^ k) := by
  rw [xn_31 k hk]
  exact pk_shrN ha (nI k) k (xn_sm k hk)
theorem xn_and (a b : Nat) : nI a &&& nI b = nI (a &&& b) := by
  apply Int32.toBitVec_inj.mp
  show (BitVec.ofNat 32 a) &&& (BitVec.ofNat 32 b) = BitVec.ofNat 32 (a &&& b)
  apply BitVec.eq_of_toNat_eq
  simp [Nat.and_mod_two_pow]
theorem xn_or (a b : Nat) : nI a ||| nI b = nI (a ||| b) := by
  apply Int32.toBitVec_inj.mp
  show (BitVec.ofNat 32 a) ||| (BitVec.ofNat 32 b) = BitVec.ofNat 32 (a ||| b)
  apply BitVec.eq_of_toNat_eq
  simp [Nat.or_mod_two_pow]
theorem xn_xor (a b : Nat) : nI a ^^^ nI b = nI (a ^^^ b) := by
  apply Int32.toBitVec_inj.mp
  show (BitVec.ofNat 32 a) ^^^ (BitVec.ofNat 32 b) = BitVec.ofNat 32 (a ^^^ b)
  apply BitVec.eq_of_toNat_eq
  simp [Nat.xor_mod_two_pow]
theorem xn_lt {a b : Nat} (ha : a < 2147483648) (hb : b < 2147483648) : (nI a < nI b) ↔ a < b := nI_ltI ha hb
theorem xn_le {a b : Nat} (ha : a < 2147483648) (hb : b < 2147483648) : (nI a ≤ nI b) ↔ a ≤ b := nI_leI ha hb
theorem xn_eq {a b : Nat} (ha : a < 2147483648) (hb : b < 2147483648) : (nI a = nI b) ↔ a = b := nI_eq ha hb
theorem xn_0 : (0 : Int32) = nI 0 := rfl
theorem xn_in {j n : Nat} (h : j < n) (hn : n < 2147483648) : ¬ (nI j < 0 ∨ n ≤ (nI j).toNatClampNeg) := nI_in h hn
theorem xn_cl {j : Nat} (h : j < 2147483648) : (nI j).toNatClampNeg = j := nI_clamp h
/-! cells -/
theorem xi_iald {a j : Nat} (hd : decode m.2.1 pc = .ok (.iaload, 1)) (hk : xkd S a = 7 ∨ xkd S a = 14) (h : j < xln S a) (hn : xln S a < 2147483648) : xX E m pc ls (.int (nI j) :: .ref a :: st) S V Q ↔ xX E m (pc + 1) ls (.int (V a j) :: st) S V Q :=
  xi hd (by show (if (1 : Nat) = 1 then (if (xkd S a = 7 ∨ xkd S a = 14) ∧ ¬ (nI j < 0 ∨ xln S a ≤ (nI j).toNatClampNeg) then xgo (pc + 1) ls (.int (V a (nI j).toNatClampNeg) :: st) S V else none) else none) = _; rw [if_pos rfl, if_pos ⟨hk, xn_in h hn⟩, xn_cl (by omega)]; rfl)
theorem xi_bald {a j : Nat} (hd : decode m.2.1 pc = .ok (.baload, 1)) (hk : xkd S a = 9 ∨ xkd S a = 12) (h : j < xln S a) (hn : xln S a < 2147483648) : xX E m pc ls (.int (nI j) :: .ref a :: st) S V Q ↔ xX E m (pc + 1) ls (.int (V a j) :: st) S V Q :=
  xi hd (by show (if (1 : Nat) = 1 then (if (xkd S a = 9 ∨ xkd S a = 12) ∧ ¬ (nI j < 0 ∨ xln S a ≤ (nI j).toNatClampNeg) then xgo (pc + 1) ls (.int (V a (nI j).toNatClampNeg) :: st) S V else none) else none) = _; rw [if_pos rfl, if_pos ⟨hk, xn_in h hn⟩, xn_cl (by omega)]; rfl)
theorem xi_cald {a j : Nat} (hd : decode m.2.1 pc = .ok (.caload, 1)) (hk : xkd S a = 8) (h : j < xln S a) (hn : xln S a < 2147483648) : xX E m pc ls (.int (nI j) :: .ref a :: st) S V Q ↔ xX E m (pc + 1) ls (.int (V a j) :: st) S V Q :=
  xi hd (by show (if (1 : Nat) = 1 then (if xkd S a = 8 ∧ ¬ (nI j < 0 ∨ xln S a ≤ (nI j).toNatClampNeg) then xgo (pc + 1) ls (.int (V a (nI j).toNatClampNeg) :: st) S V else none) else none) = _; rw [if_pos rfl, if_pos ⟨hk, xn_in h hn⟩, xn_cl (by omega)]; rfl)
theorem xi_aald {a j : Nat} (hd : decode m.2.1 pc = .ok (.aaload, 1)) (hk : xkd S a = 10 ∨ xkd S a = 11) (h : j < xln S a) (hn : xln S a < 2147483648) : xX E m pc ls (.int (nI j) :: .ref a :: st) S V Q ↔ xX E m (pc + 1) ls (va_rf (xrf S a j) :: st) S V Q :=
  xi hd (by show (if (1 : Nat) = 1 then (if (xkd S a = 10 ∨ xkd S a = 11) ∧ ¬ (nI j < 0 ∨ xln S a ≤ (nI j).toNatClampNeg) then xgo (pc + 1) ls (va_rf (xrf S a (nI j).toNatClampNeg) :: st) S V else none) else none) = _; rw [if_pos rfl, if_pos ⟨hk, xn_in h hn⟩, xn_cl (by omega)]; rfl)
theorem xi_iast {a j : Nat} {v : Int32} (hd : decode m.2.1 pc = .ok (.iastore, 1)) (hk : xkd S a = 7) (h : j < xln S a) (hn : xln S a < 2147483648) : xX E m pc ls (.int v :: .int (nI j) :: .ref a :: st) S V Q ↔ xX E m (pc + 1) ls st S (xup V a j v) Q :=
  xi hd (by show (if (1 : Nat) = 1 then (if xkd S a = 7 ∧ ¬ (nI j < 0 ∨ xln S a ≤ (nI j).toNatClampNeg) then xgo (pc + 1) ls st S (xup V a (nI j).toNatClampNeg v) else none) else none) = _; rw [if_pos rfl, if_pos ⟨hk, xn_in h hn⟩, xn_cl (by omega)]; rfl)
theorem xn_nb : ∀ b : Nat, b < 2 → vp_nar .boolean (nI b) = nI b := by decide +kernel
theorem xn_nb2 : ∀ b : Nat, b < 2 → narrow .boolean (.int (nI b)) = .int (nI b) := by decide +kernel
theorem xi_bast {a j b : Nat} (hd : decode m.2.1 pc = .ok (.bastore, 1)) (hk : xkd S a = 9) (h : j < xln S a) (hn : xln S a < 2147483648) (hb : b < 2) : xX E m pc ls (.int (nI b) :: .int (nI j) :: .ref a :: st) S V Q ↔ xX E m (pc + 1) ls st S (xup V a j (nI b)) Q :=
  xi hd (by show (if (1 : Nat) = 1 then (if xkd S a = 9 ∧ ¬ (nI j < 0 ∨ xln S a ≤ (nI j).toNatClampNeg) then xgo (pc + 1) ls st S (xup V a (nI j).toNatClampNeg (vp_nar .boolean (nI b))) else none) else none) = _; rw [if_pos rfl, if_pos ⟨hk, xn_in h hn⟩, xn_cl (by omega), xn_nb b hb]; rfl)
theorem xi_cast {a j b : Nat} (hd : decode m.2.1 pc = .ok (.castore, 1)) (hk : xkd S a = 8) (h : j < xln S a) (hn : xln S a < 2147483648) (hb : b < 65536) : xX E m pc ls (.int (nI b) :: .int (nI j) :: .ref a :: st) S V Q ↔ xX E m (pc + 1) ls st S (xup V a j (nI b)) Q :=
  xi hd (by show (if (1 : Nat) = 1 then (if xkd S a = 8 ∧ ¬ (nI j < 0 ∨ xln S a ≤ (nI j).toNatClampNeg) then xgo (pc + 1) ls st S (xup V a (nI j).toNatClampNeg (vp_nar .char (nI b))) else none) else none) = _; rw [if_pos rfl, if_pos ⟨hk, xn_in h hn⟩, xn_cl (by omega), show vp_nar .char (nI b) = nI b by unfold vp_nar; rw [(pk_charN hb).1]]; rfl)
theorem xi_aast {a j v : Nat} (hd : decode m.2.1 pc = .ok (.aastore, 1)) (hk : (xkd S a = 10 ∧ xkd S v = 1) ∨ (xkd S a = 11 ∧ xkd S v = 3)) (h : j < xln S a) (hn : xln S a < 2147483648) : xX E m pc ls (.ref v :: .int (nI j) :: .ref a :: st) S V Q ↔ xX E m (pc + 1) ls st (xsetr S a j (some v)) V Q :=
  xi hd (by show (if (1 : Nat) = 1 then (if ((xkd S a = 10 ∧ xkd S v = 1) ∨ (xkd S a = 11 ∧ xkd S v = 3)) ∧ ¬ (nI j < 0 ∨ xln S a ≤ (nI j).toNatClampNeg) then xgo (pc + 1) ls st (xsetr S a (nI j).toNatClampNeg (some v)) V else none) else none) = _; rw [if_pos rfl, if_pos ⟨hk, xn_in h hn⟩, xn_cl (by omega)]; rfl)
theorem xi_alen {a : Nat} (hd : decode m.2.1 pc = .ok (.arraylength, 1)) (hk : (7 ≤ xkd S a ∧ xkd S a ≤ 12) ∨ xkd S a = 14) : xX E m pc ls (.ref a :: st) S V Q ↔ xX E m (pc + 1) ls (.int (nI (xln S a)) :: st) S V Q :=
  xi hd (by show (if (1 : Nat) = 1 then (if (7 ≤ xkd S a ∧ xkd S a ≤ 12) ∨ xkd S a = 14 then xgo (pc + 1) ls (.int (Int32.ofNat (xln S a)) :: st) S V else none) else none) = _; rw [if_pos rfl, if_pos hk]; rfl)
theorem xi_getI {x kd j a : Nat} (hd : decode m.2.1 pc = .ok (.getfield x, 3)) (hf : xassoc xFt (xkey m x) = some (kd, j)) (hR : xisR kd j = false) (hk : xkd S a = kd) : xX E m pc ls (.ref a :: st) S V Q ↔ xX E m (pc + 3) ls (.int (V a j) :: st) S V Q :=
  xi hd (by show (if (3 : Nat) = 3 then (match xassoc xFt (xkey m x) with | some (kd, j) => if xkd S a = kd then xgo (pc + 3) ls ((if xisR kd j = true then va_rf (xrf S a j) else .int (V a j)) :: st) S V else none | none => none) else none) = _; rw [if_pos rfl, hf]; dsimp only; rw [if_pos hk, hR]; rfl)
theorem xi_getR {x kd j a : Nat} (hd : decode m.2.1 pc = .ok (.getfield x, 3)) (hf : xassoc xFt (xkey m x) = some (kd, j)) (hR : xisR kd j = true) (hk : xkd S a = kd) : xX E m pc ls (.ref a :: st) S V Q ↔ xX E m (pc + 3) ls (va_rf (xrf S a j) :: st) S V Q :=
  xi hd (by show (if (3 : Nat) = 3 then (match xassoc xFt (xkey m x) with | some (kd, j) => if xkd S a = kd then xgo (pc + 3) ls ((if xisR kd j = true then va_rf (xrf S a j) else .int (V a j)) :: st) S V else none | none => none) else none) = _; rw [if_pos rfl, hf]; dsimp only; rw [if_pos hk, hR]; rfl)
theorem xi_putI {x kd j a : Nat} {v : Int32} (hd : decode m.2.1 pc = .ok (.putfield x, 3)) (hf : xassoc xFt (xkey m x) = some (kd, j)) (h6 : kd ≤ 6) (hR : xisR kd j = false) (hZ : xisZ kd j = false) (hk : xkd S a = kd) : xX E m pc ls (.int v :: .ref a :: st) S V Q ↔ xX E m (pc + 3) ls st S (xup V a j v) Q :=
  xi hd (by show (if (3 : Nat) = 3 then (match xassoc xFt (xkey m x) with | some (kd, j) => (if xkd S a = kd ∧ kd ≤ 6 ∧ xisR kd j = false ∧ (xisZ kd j = true → v = 0 ∨ v = 1) then xgo (pc + 3) ls st S (xup V a j v) else none) | none => none) else none) = _; rw [if_pos rfl, hf]; dsimp only; rw [if_pos ⟨hk, h6, hR, fun h => by rw [hZ] at h; cases h⟩]; rfl)
theorem xn_01 : ∀ b : Nat, b < 2 → nI b = 0 ∨ nI b = 1 := by decide +kernel
theorem xi_putZ {x kd j a b : Nat} (hd : decode m.2.1 pc = .ok (.putfield x, 3)) (hf : xassoc xFt (xkey m x) = some (kd, j)) (h6 : kd ≤ 6) (hR : xisR kd j = false) (hk : xkd S a = kd) (hb : b < 2) : xX E m pc ls (.int (nI b) :: .ref a :: st) S V Q ↔ xX E m (pc + 3) ls st S (xup V a j (nI b)) Q :=
  xi hd (by show (if (3 : Nat) = 3 then (match xassoc xFt (xkey m x) with | some (kd, j) => (if xkd S a = kd ∧ kd ≤ 6 ∧ xisR kd j = false ∧ (xisZ kd j = true → nI b = 0 ∨ nI b = 1) then xgo (pc + 3) ls st S (xup V a j (nI b)) else none) | none => none) else none) = _; rw [if_pos rfl, hf]; dsimp only; rw [if_pos ⟨hk, h6, hR, fun _ => xn_01 b hb⟩]; rfl)
theorem xi_putR {x kd j a v : Nat} (hd : decode m.2.1 pc = .ok (.putfield x, 3)) (hf : xassoc xFt (xkey m x) = some (kd, j)) (h6 : kd ≤ 6) (hR : xisR kd j = true) (hn : m.1.name = "<init>") (ho : xown m + 1 = kd) (hk : xkd S a = kd) : xX E m pc ls (.ref v :: .ref a :: st) S V Q ↔ xX E m (pc + 3) ls st (xsetr S a j (some v)) V Q :=
  xi hd (by show (if (3 : Nat) = 3 then (match xassoc xFt (xkey m x) with | some (kd, j) => (if xkd S a = kd ∧ kd ≤ 6 ∧ xisR kd j = true ∧ m.1.name = "<init>" ∧ xown m + 1 = kd then xgo (pc + 3) ls st (xsetr S a j (some v)) V else none) | none => none) else none) = _; rw [if_pos rfl, hf]; dsimp only; rw [if_pos ⟨hk, h6, hR, hn, ho⟩]; rfl)
theorem xi_rem {a b : Nat} (hd : decode m.2.1 pc = .ok (.irem, 1)) (h0 : 0 < b) (ha : a < 2147483648) (hb : b < 2147483648) : xX E m pc ls (.int (nI b) :: .int (nI a) :: st) S V Q ↔ xX E m (pc + 1) ls (.int (nI (a % b)) :: st) S V Q :=
  xi hd (by show (if (1 : Nat) = 1 then (if nI b = 0 then none else xgo (pc + 1) ls (.int (nI a - nI a / nI b * nI b) :: st) S V) else none) = _; rw [if_pos rfl, if_neg (nI_ne0 h0 hb), xn_rem ha h0 hb]; rfl)
theorem xi_remG {x y : Int32} (hd : decode m.2.1 pc = .ok (.irem, 1)) (h : ¬ y = 0) : xX E m pc ls (.int y :: .int x :: st) S V Q ↔ xX E m (pc + 1) ls (.int (x - x / y * y) :: st) S V Q :=
  xi hd (by show (if (1 : Nat) = 1 then (if y = 0 then none else xgo (pc + 1) ls (.int (x - x / y * y) :: st) S V) else none) = _; rw [if_pos rfl, if_neg h]; rfl)
theorem xn_div {a b : Nat} (ha : a < 2147483648) (h0 : 0 < b) (hb : b < 2147483648) : nI a / nI b = nI (a / b) := pk_div ha h0 hb
theorem xi_div {a b : Nat} (hd : decode m.2.1 pc = .ok (.idiv, 1)) (h0 : 0 < b) (ha : a < 2147483648) (hb : b < 2147483648) : xX E m pc ls (.int (nI b) :: .int (nI a) :: st) S V Q ↔ xX E m (pc + 1) ls (.int (nI (a / b)) :: st) S V Q :=
  xi hd (by show (if (1 : Nat) = 1 then (if nI b = 0 then none else xgo (pc + 1) ls (.int (nI a / nI b) :: st) S V) else none) = _; rw [if_pos rfl, if_neg (nI_ne0 h0 hb), xn_div ha h0 hb]; rfl)
theorem xi_retL {v : Int64} (hd : decode m.2.1 pc = .ok (.lreturn, 1)) (hr : m.2.2.2.1 = some .long) : xX E m pc ls [.long v] S V Q ↔ Q (some (.long v)) S V := xi_r hd (by simp only [xdo, if_true]; rw [hr])
theorem xi_tab {dd lo hi : Int} {offs : Array Int} {k : Nat} {x : Int32} {tgt : Nat} {off : Int} (hd : decode m.2.1 pc = .ok (.tableswitch dd lo hi offs, k)) (ho : (if x.toInt < lo ∨ hi < x.toInt then dd else offs.getD (x.toInt - lo).toNat 0) = off) (hs : (hi - lo).toNat < offs.size) (ht : (pc : Int) + off = (tgt : Int)) : xX E m pc ls (.int x :: st) S V Q ↔ xX E m tgt ls st S V Q :=
  xi hd (by
    show (if x.toInt < lo ∨ hi < x.toInt then xoff pc dd ls st S V else (match offs[(x.toInt - lo).toNat]? with | some off => xoff pc off ls st S V | none => none)) = _
    by_cases h : x.toInt < lo ∨ hi < x.toInt
    · rw [if_pos h] at ho ⊢; rw [ho]; exact xi_off ht
    · rw [if_neg h] at ho ⊢
      have hlt : (x.toInt - lo).toNat < offs.size := by omega
      rw [Array.getElem?_eq_getElem hlt]
      dsimp only
      have : offs.getD (x.toInt - lo).toNat 0 = offs[(x.toInt - lo).toNat] := by simp [Array.getD, hlt]
      rw [← this, ho]; exact xi_off ht)
theorem xcall_yes {y : xM} {n : Nat} {as rest : List Value} (h1 : n ≤ st.length) (h2 : xcat rest ≤ 8) (h3 : xht y < xht m) (h4 : (xargs as).length ≤ y.2.2.1) : xcall m y n as rest st = some (.inr (.inr (y, as, rest))) := if_pos ⟨h1, h2, h3, h4⟩
theorem xi_callV {x n b kd : Nat} {y : xM} {as rest : List Value} (hd : decode m.2.1 pc = .ok (.invokevirtual x, 3)) (hf : xassoc xCt (xkey m x) = some (y, n, 0)) (hst : st = as.reverse ++ .ref b :: rest) (hn : as.length = n) (hht : xht y < xht m) (hln : (xargs (.ref b :: as)).length ≤ y.2.2.1) (hkd : xkdo (xown y) = kd) (hk : xkd S b = kd) (hc : xcat rest ≤ 8) :
    xX E m pc ls st S V Q ↔ xC E y (.ref b :: as) S V (fun v S' V' => xX E m (pc + 3) ls (v.toList ++ rest) S' V' Q) := by
  subst hst hn
  refine xX_call (by
    rw [xstep, hd]
    dsimp only
    simp only [xdo, if_true]
    have e1 : (as.reverse ++ Value.ref b :: rest).drop as.length = .ref b :: rest := by simp
    have e2 : ((as.reverse ++ Value.ref b :: rest).take as.length).reverse = as := by simp
    rw [hf]
    simp only [e1]
    rw [if_pos (hk.trans hkd.symm), e2]
    exact xcall_yes (by simp) hc hht hln)
theorem xi_callS {x n mode : Nat} {y : xM} {as rest : List Value} (hd : decode m.2.1 pc = .ok (.invokestatic x, 3)) (hf : xassoc xCt (xkey m x) = some (y, n, mode)) (hm : mode = 1 ∨ mode = 3) (hst : st = as.reverse ++ rest) (hn : as.length = n) (hht : xht y < xht m) (hln : (xargs as).length ≤ y.2.2.1) (hc : xcat rest ≤ 8) :
    xX E m pc ls st S V Q ↔ xC E y as S V (fun v S' V' => xX E m (pc + 3) ls (v.toList ++ rest) S' V' Q) := by
  subst hst hn
  refine xX_call (by
    rw [xstep, hd]
    have e1 : (as.reverse ++ rest).drop as.length = rest := by simp
    have e2 : ((as.reverse ++ rest).take as.length).reverse = as := by simp
    dsimp only
    simp only [xdo, if_true]
    rcases hm with rfl | rfl
    · rw [hf]
      simp only [e1, e2]
      exact xcall_yes (by simp) hc hht hln
    · rw [hf]
      simp only [e1, e2]
      exact xcall_yes (by simp) hc hht hln)
theorem xi_callI {x n b mode : Nat} {y : xM} {as rest : List Value} (hd : decode m.2.1 pc = .ok (.invokespecial x, 3)) (hf : xassoc xCt (xkey m x) = some (y, n, mode)) (hm : mode = 2 ∨ mode = 4) (hst : st = as.reverse ++ .ref b :: rest) (hn : as.length = n) (hht : xht y < xht m) (hln : (xargs (.ref b :: as)).length ≤ y.2.2.1) (hc : xcat rest ≤ 8) :
    xX E m pc ls st S V Q ↔ xC E y (.ref b :: as) S V (fun v S' V' => xX E m (pc + 3) ls (v.toList ++ rest) S' V' Q) := by
  subst hst hn
  refine xX_call (by
    rw [xstep, hd]
    have e1 : (as.reverse ++ Value.ref b :: rest).drop as.length = .ref b :: rest := by simp
    have e2 : ((as.reverse ++ Value.ref b :: rest).take as.length).reverse = as := by simp
    dsimp only
    simp only [xdo, if_true]
    rcases hm with rfl | rfl
    · rw [hf]
      simp only [e1, e2]
      exact xcall_yes (by simp) hc hht hln
    · rw [hf]
      simp only [e1, e2]
      exact xcall_yes (by simp) hc hht hln)
theorem xi_objI {x b : Nat} (hd : decode m.2.1 pc = .ok (.invokespecial x, 3)) (hf : xassoc xCt (xkey m x) = none) (ho : xkey m x ∈ xOt) (hh : 0 < xht m) (hc : xcat st ≤ 8) : xX E m pc ls (.ref b :: st) S V Q ↔ xX E m (pc + 3) ls st S V Q :=
  xi hd (by simp only [xdo, if_true]; rw [hf]; dsimp only; rw [if_pos ho, if_pos ⟨hc, hh⟩]; rfl)
theorem xi_max {x : Nat} {a b : Int32} (hd : decode m.2.1 pc = .ok (.invokestatic x, 3)) (hf : xassoc xCt (xkey m x) = none) (ho : xassoc xMt (xkey m x) = some 0) (hh : 0 < xht m) (hc : xcat st ≤ 8) : xX E m pc ls (.int b :: .int a :: st) S V Q ↔ xX E m (pc + 3) ls (.int (if a < b then b else a) :: st) S V Q :=
  xi hd (by simp only [xdo, if_true]; rw [hf]; dsimp only; rw [ho]; exact if_pos ⟨hc, hh⟩)
theorem xi_copy {x a a0 sp dp n : Nat} (hd : decode m.2.1 pc = .ok (.invokestatic x, 3)) (hf : xassoc xCt (xkey m x) = none) (hg : xassoc xMt (xkey m x) = none) (ho : xkey m x ∈ xAt) (hh : 0 < xht m) (k0 : xkd S a0 = 7) (k1 : xkd S a = 7) (h4 : sp + n ≤ xln S a0) (h5 : dp + n ≤ xln S a) (b0 : xln S a0 < 2147483648) (b1 : xln S a < 2147483648) (hc : xcat st ≤ 8) :
    xX E m pc ls (.int (nI n) :: .int (nI dp) :: .ref a :: .int (nI sp) :: .ref a0 :: st) S V Q ↔ xX E m (pc + 3) ls st S (xrow V a (va_cpy (V a0) (V a) sp dp n)) Q :=
  xi hd (by
    simp only [xdo, if_true]
    rw [hf]
    dsimp only
    rw [hg]
    dsimp only
    rw [if_pos ho, xn_cl (j := sp) (by omega), xn_cl (j := dp) (by omega), xn_cl (j := n) (by omega), if_pos ⟨k0, k1, ⟨nI_pos (by omega), nI_pos (by omega), nI_pos (by omega)⟩, h4, h5, hc, hh⟩]
    rfl)
theorem xi_newarr {t : ArrayType} {n kd : Nat} (hd : decode m.2.1 pc = .ok (.newarray t, 2)) (hk : (kd = 7 ∧ t = .int) ∨ (kd = 8 ∧ t = .char) ∨ (kd = 9 ∧ t = .boolean)) (hn : n ≤ 10000) : xX E m pc ls (.int (nI n) :: st) S V Q ↔ xX E m (pc + 2) ls (.ref S.2.1 :: st) (xnew S kd n n) (xrow V S.2.1 (fun _ => 0)) Q :=
  xi hd (by
    simp only [xdo, if_true]
    rw [if_neg (nI_pos (by omega)), xn_cl (by omega), if_pos hn]
    rcases hk with ⟨rfl, rfl⟩ | ⟨rfl, rfl⟩ | ⟨rfl, rfl⟩ <;> rfl)
theorem xi_anewarr {x n ci kd : Nat} (hd : decode m.2.1 pc = .ok (.anewarray x, 3)) (hf : xassoc xKt (xkey m x) = some ci) (hk : (kd = 10 ∧ ci = 0) ∨ (kd = 11 ∧ ci = 2)) (hn : n ≤ 10000) : xX E m pc ls (.int (nI n) :: st) S V Q ↔ xX E m (pc + 3) ls (.ref S.2.1 :: st) (xnew S kd n n) (xrow V S.2.1 (fun _ => 0)) Q :=
  xi hd (by
    simp only [xdo, if_true]
    rw [if_neg (nI_pos (by omega)), xn_cl (by omega), if_pos hn, hf]
    rcases hk with ⟨rfl, rfl⟩ | ⟨rfl, rfl⟩ <;> rfl)
theorem xi_new {x ci : Nat} (hd : decode m.2.1 pc = .ok (.new x, 3)) (hf : xassoc xKt (xkey m x) = some ci) : xX E m pc ls st S V Q ↔ xX E m (pc + 3) ls (.ref S.2.1 :: st) (xnew S (ci + 1) 0 (xN (ci + 1))) (xrow V S.2.1 (fun _ => 0)) Q :=
  xi hd (by simp only [xdo, if_true]; rw [hf]; rfl)
theorem xi_stat {x w : Nat} {v : Value} (hd : decode m.2.1 pc = .ok (.getstatic x, 3)) (hf : xassoc xSt (xkey m x) = some w) (hv : (w = 0 ∧ v = .ref E.1) ∨ (w = 1 ∧ v = .ref E.2.1)) : xX E m pc ls st S V Q ↔ xX E m (pc + 3) ls (v :: st) S V Q :=
  xi hd (by
    simp only [xdo, if_true]
    rw [hf]
    rcases hv with ⟨rfl, rfl⟩ | ⟨rfl, rfl⟩ <;> rfl)
theorem xi_ldc {x : Nat} {v : Int32} (hd : decode m.2.1 pc = .ok (.ldc x, 2)) (hf : xassoc xIt (xkey m x) = some v) : xX E m pc ls st S V Q ↔ xX E m (pc + 2) ls (.int v :: st) S V Q := xi hd (by simp only [xdo, if_true]; rw [hf]; rfl)
theorem xi_ldcw {x : Nat} {v : Int32} (hd : decode m.2.1 pc = .ok (.ldc_w x, 3)) (hf : xassoc xIt (xkey m x) = some v) : xX E m pc ls st S V Q ↔ xX E m (pc + 3) ls (.int v :: st) S V Q := xi hd (by simp only [xdo, if_true]; rw [hf]; rfl)
theorem xi_ldc2 {x : Nat} {v : Int64} (hd : decode m.2.1 pc = .ok (.ldc2_w x, 3)) (hf : xassoc xJt (xkey m x) = some v) : xX E m pc ls st S V Q ↔ xX E m (pc + 3) ls (.long v :: st) S V Q := xi hd (by simp only [xdo, if_true]; rw [hf]; rfl)
theorem xi_retI {v : Int32} (hd : decode m.2.1 pc = .ok (.ireturn, 1)) (hr : m.2.2.2.1 = some .int) : xX E m pc ls [.int v] S V Q ↔ Q (some (.int v)) S V := xi_r hd (by simp only [xdo, if_true]; rw [hr]; exact if_pos rfl)
theorem xi_retZ {b : Nat} (hd : decode m.2.1 pc = .ok (.ireturn, 1)) (hr : m.2.2.2.1 = some .boolean) (hb : b < 2) : xX E m pc ls [.int (nI b)] S V Q ↔ Q (some (.int (nI b))) S V := xi_r hd (by simp only [xdo, if_true]; rw [hr]; dsimp only; rw [if_pos (xn_nb2 b hb)])
theorem xi_retC {b : Nat} (hd : decode m.2.1 pc = .ok (.ireturn, 1)) (hr : m.2.2.2.1 = some .char) (hb : b < 65536) : xX E m pc ls [.int (nI b)] S V Q ↔ Q (some (.int (nI b))) S V := xi_r hd (by simp only [xdo, if_true]; rw [hr]; dsimp only; rw [if_pos (pk_charN hb).1])
theorem xi_retB {b : Nat} (hd : decode m.2.1 pc = .ok (.ireturn, 1)) (hr : m.2.2.2.1 = some .byte) (hb : narrow .byte (.int (nI b)) = .int (nI b)) : xX E m pc ls [.int (nI b)] S V Q ↔ Q (some (.int (nI b))) S V := xi_r hd (by simp only [xdo, if_true]; rw [hr]; dsimp only; rw [if_pos hb])
theorem xi_retV (hd : decode m.2.1 pc = .ok (.return_, 1)) (hr : m.2.2.2.1 = none) : xX E m pc ls [] S V Q ↔ Q none S V := xi_r hd (by simp only [xdo, if_true]; rw [hr])
theorem xi_retA {a : Nat} (hd : decode m.2.1 pc = .ok (.areturn, 1)) (hr : (∃ o, m.2.2.2.1 = some (.object o)) ∨ (∃ o, m.2.2.2.1 = some (.array o))) : xX E m pc ls [.ref a] S V Q ↔ Q (some (.ref a)) S V := xi_r hd (by
  simp only [xdo, if_true]
  rcases hr with ⟨o, hr⟩ | ⟨o, hr⟩ <;> rw [hr])
end XI
theorem xrf_some (a : Nat) : va_rf (some a) = .ref a := rfl
theorem xup_eq {V : xV} {a j : Nat} {v : Int32} : xup V a j v a j = v := if_pos ⟨rfl, rfl⟩
theorem xup_ne {V : xV} {a j b i : Nat} {v : Int32} (h : ¬ (b = a ∧ i = j)) : xup V a j v b i = V b i := if_neg h
theorem xrow_eq {V : xV} {a : Nat} {f : Nat → Int32} : xrow V a f a = f := if_pos rfl
theorem xrow_ne {V : xV} {a b : Nat} {f : Nat → Int32} (h : ¬ b = a) : xrow V a f b = V b := if_neg h
section XI2
variable {E : Nat × Nat × Nat} {m : xM} {pc : Nat} {ls : List (Option Value)} {st : List Value} {S : xSh} {V : xV} {Q : Option Value → xSh → xV → Prop}
theorem xi_iinc {j : Nat} {n : Int} {o : Option Value} {x v : Int32} {ls' : List (Option Value)} (hd : decode m.2.1 pc = .ok (.iinc (j + 1) n, 3)) (hj : ls[j]? = some o) (ho : xnl o = true) (hx : ls[j + 1]? = some (some (.int x))) (hv : x + Int32.ofInt n = v) (hlt : j + 1 < ls.length) (hl : ls.set (j + 1) (some (.int v)) = ls') : xX E m pc ls st S V Q ↔ xX E m (pc + 3) ls' st S V Q := by
  rw [← hl, ← xst1_s hj ho (.int v), ← hv]
  refine xi hd ?_
  simp only [xdo, if_true]
  rw [xlocAt_iff.mpr hx]
  dsimp only
  rw [if_pos hlt]
  rfl
theorem xiinc_m1 (a : Nat) : nI a + nI 1 + Int32.ofInt (-1) = nI a := by
  rw [Int32.add_assoc, show nI 1 + Int32.ofInt (-1) = 0 by decide +kernel, Int32.add_zero]
theorem xi_look {dd : Int} {ps : Array (Int × Int)} {k : Nat} {x : Int32} {tgt : Nat} {off : Int} (hd : decode m.2.1 pc = .ok (.lookupswitch dd ps, k)) (hs : (ps.toList.zip (ps.toList.drop 1)).all (fun (a, next) => a.1 < next.1) = true) (ho : Op.lookupswitch.offset ps.toList dd x.toInt = off) (ht : (pc : Int) + off = (tgt : Int)) : xX E m pc ls (.int x :: st) S V Q ↔ xX E m tgt ls st S V Q :=
  xi hd (by
    simp only [xdo]
    rw [if_pos hs, ho]
    exact xi_off ht)
end XI2
