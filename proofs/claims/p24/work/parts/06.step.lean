/-! ===== a step of the pure machine is a step of the machine ===== -/
/-- what holds in a method, from its entry on -/
def xCx (cy : Nat → ClassId) (D : va_G) (Bs : Nat) (E : Nat × Nat × Nat) (p : Program) (R : Room) (s : State) (m : MethodId) (args : Array Value) (meth : Method) (c : Code) (mm : xM) : Prop :=
  p.tables.exec = Jvm.exec ∧ c.code = mm.2.1 ∧ c.maxLocals = mm.2.2.1 ∧ s.vm.findClass (xcn (xown mm)) = some m.cls ∧ (mm.1.name = "<init>" → meth.name = mm.1.name) ∧ (∀ w ∈ xws0, w.before args s = true) ∧ va_K D vwCl (xtys cy) s ∧ xSo Bs E s s.heap ∧ Bs ≤ s.heap.size ∧ xht mm ≤ R.frames ∧ 34 * xht mm ≤ R.locals
section XST
variable {cy : Nat → ClassId} {D : va_G} {Bs : Nat} {E : Nat × Nat × Nat} {p : Program} {l : Launch} {e : Env} {R : Room} {s : State} {m : MethodId} {args : Array Value} {below : List Frame} {meth : Method} {c : Code} {Q : State → Prop} {mm : xM} {T0 Z0 : Nat}
theorem xCx.hx (h : xCx cy D Bs E p R s m args meth c mm) : p.tables.exec = Jvm.exec := h.1
theorem xCx.hb (h : xCx cy D Bs E p R s m args meth c mm) : c.code = mm.2.1 := h.2.1
theorem xCx.hml (h : xCx cy D Bs E p R s m args meth c mm) : c.maxLocals = mm.2.2.1 := h.2.2.1
theorem xCx.hown (h : xCx cy D Bs E p R s m args meth c mm) : s.vm.findClass (xcn (xown mm)) = some m.cls := h.2.2.2.1
theorem xCx.hnm (h : xCx cy D Bs E p R s m args meth c mm) : mm.1.name = "<init>" → meth.name = mm.1.name := h.2.2.2.2.1
theorem xCx.hts (h : xCx cy D Bs E p R s m args meth c mm) : ∀ w ∈ xws0, w.before args s = true := h.2.2.2.2.2.1
theorem xCx.hK (h : xCx cy D Bs E p R s m args meth c mm) : va_K D vwCl (xtys cy) s := h.2.2.2.2.2.2.1
theorem xCx.hO (h : xCx cy D Bs E p R s m args meth c mm) : xSo Bs E s s.heap := h.2.2.2.2.2.2.2.1
theorem xCx.hB (h : xCx cy D Bs E p R s m args meth c mm) : Bs ≤ s.heap.size := h.2.2.2.2.2.2.2.2.1
theorem xCx.hfr (h : xCx cy D Bs E p R s m args meth c mm) : xht mm ≤ R.frames := h.2.2.2.2.2.2.2.2.2.1
theorem xCx.hlo (h : xCx cy D Bs E p R s m args meth c mm) : 34 * xht mm ≤ R.locals := h.2.2.2.2.2.2.2.2.2.2
end XST
/-- the machine, at this place of the method with cells as S and V say, comes to Q -/
def xG (cy : Nat → ClassId) (D : va_G) (Bs : Nat) (p : Program) (l : Launch) (e : Env) (R : Room) (s : State) (m : MethodId) (args : Array Value) (below : List Frame) (meth : Method) (c : Code) (Q : State → Prop) (n T0 Z0 : Nat) (pc : Nat) (ls : List (Option Value)) (st : List Value) (S : xSh) (V : xV) : Prop :=
  ∀ (H : Heap) (locs : List Loc) (lsA : Array Slot), xP cy D Bs S V H → va_S (xA Bs) s.heap H locs → xEx Bs S V s s.heap → xLo lsA n ls → W p l e R s m args below meth c H locs (S.2.1 - T0) (S.2.2 - Z0) Q (F0 m pc lsA st)
/-! kinds of objects -/
theorem xisR_ty {kd k : Nat} (h : xisR kd k = true) : (∃ t, xty kd k = .array t) ∨ (∃ t, xty kd k = .object t) := by
  unfold xisR at h
  split at h
  · rename_i t ht; exact Or.inl ⟨_, ht⟩
  · rename_i t ht; exact Or.inr ⟨_, ht⟩
  · cases h
theorem xkf (kd : Nat) (h1 : 1 ≤ kd) (h6 : kd ≤ 5) : vwCl[kd - 1]? = some (xcn (kd - 1), xT kd, xN kd) ∧ (∀ w ∈ u_ws (xcn (kd - 1)) (xT kd) (xN kd), w ∈ xws0) ∧ (∀ k, k < xN kd → parseFieldDescriptor (xT kd k).2.2.1 = some (xty kd k)) ∧ (∀ a, a < xN kd → ∀ b, b < xN kd → a ≠ b → (xT kd a).2.1 ≠ (xT kd b).2.1) ∧ (∀ k, k < xN kd → (xT kd k).2.2.2 = xisR kd k) ∧ (∀ k, k < xN kd → (xT kd k).1 = xcn (kd - 1)) ∧
    (∀ k, k < xN kd → xisR kd k = false → xty kd k = .int ∨ (xty kd k = .boolean ∧ xisZ kd k = true)) := by
  have r : kd = 1 ∨ kd = 2 ∨ kd = 3 ∨ kd = 4 ∨ kd = 5 := by omega
  rcases r with rfl | rfl | rfl | rfl | rfl
  · exact ⟨rfl, xw_lay_0, tyX0_ok, nmX0, by decide +kernel, by decide +kernel, by decide +kernel⟩
  · exact ⟨rfl, xw_lay_1, tyX1_ok, nmX1, by decide +kernel, by decide +kernel, by decide +kernel⟩
  · exact ⟨rfl, xw_lay_2, tyX2_ok, nmX2, by decide +kernel, by decide +kernel, by decide +kernel⟩
  · exact ⟨rfl, xw_lay_3, tyX3_ok, nmX3, by decide +kernel, by decide +kernel, by decide +kernel⟩
  · exact ⟨rfl, xw_lay_4, tyX4_ok, nmX4, by decide +kernel, by decide +kernel, by decide +kernel⟩
/-! stores -/
theorem xP_upd {cy : Nat → ClassId} {D : va_G} {Bs : Nat} {S S' : xSh} {V V' : xV} {H H' : Heap} {a : Nat} (hP : xP cy D Bs S V H) (e2 : H'.size = H.size) (e3 : ∀ q : Nat, q ≠ a → H'[q]? = H[q]?) (hT : S'.2.1 = S.2.1) (hk : xkd S' a = xkd S a) (ho : ∀ b, b ≠ a → S'.1 b = S.1 b ∧ V' b = V b) (ha : xat cy D S' V' a H') : xP cy D Bs S' V' H' := by
  refine ⟨by rw [e2, hT]; exact hP.1, fun b => ?_⟩
  by_cases hb : b = a
  · subst hb
    refine ⟨?_, ha⟩
    rw [hk, hT]
    exact (hP.2 b).1
  · obtain ⟨h1, h2⟩ := ho b hb
    have k1 : xkd S' b = xkd S b := by unfold xkd; rw [h1]
    have k2 : xln S' b = xln S b := by unfold xln; rw [h1]
    have k3 : xrf S' b = xrf S b := by funext q; unfold xrf; rw [h1]
    unfold xat
    rw [k1, k2, k3, h2, hT, e3 b hb]
    obtain ⟨g1, g2, g3, g4⟩ := hP.2 b
    exact ⟨g1, fun x y => (g2 x y).kept (e3 b hb), g3, g4⟩
theorem xEx_upd {Bs : Nat} {S S' : xSh} {V V' : xV} {U : State} {H : Heap} {a : Nat} (hE : xEx Bs S V U H) (hk : xkd S' a ≤ 11) (ho : ∀ b, b ≠ a → S'.1 b = S.1 b ∧ V' b = V b) : xEx Bs S' V' U H := by
  intro b
  by_cases hb : b = a
  · subst hb
    exact ⟨fun h => by omega, fun h => by omega, fun h => by omega⟩
  · obtain ⟨h1, h2⟩ := ho b hb
    have k1 : xkd S' b = xkd S b := by unfold xkd; rw [h1]
    have k2 : xln S' b = xln S b := by unfold xln; rw [h1]
    have k3 : xrf S' b = xrf S b := by funext q; unfold xrf; rw [h1]
    rw [k1, k2, k3, h2]
    exact hE b
theorem xup_o {V : xV} {S : xSh} {a j : Nat} {v : Int32} : ∀ b, b ≠ a → S.1 b = S.1 b ∧ xup V a j v b = V b := fun b hb => ⟨rfl, by funext i; simp [xup, hb]⟩
theorem xrow_o {V : xV} {S : xSh} {a : Nat} {f : Nat → Int32} : ∀ b, b ≠ a → S.1 b = S.1 b ∧ xrow V a f b = V b := fun b hb => ⟨rfl, by simp [xrow, hb]⟩
theorem xup_s (V : xV) (a j : Nat) (v : Int32) : xup V a j v a = upd (V a) j v := by funext i; simp [xup, upd]
theorem xsetr_o {V : xV} {S : xSh} {a k : Nat} {r : Option Nat} : ∀ b, b ≠ a → (xsetr S a k r).1 b = S.1 b ∧ V b = V b := fun b hb => ⟨by simp [xsetr, hb], rfl⟩
theorem xsetr_kd (S : xSh) (a k : Nat) (r : Option Nat) (b : Nat) : xkd (xsetr S a k r) b = xkd S b := by unfold xkd xsetr; by_cases h : b = a <;> simp [h]
theorem xsetr_ln (S : xSh) (a k : Nat) (r : Option Nat) (b : Nat) : xln (xsetr S a k r) b = xln S b := by unfold xln xsetr; by_cases h : b = a <;> simp [h]
theorem xsetr_s (S : xSh) (a k : Nat) (r : Option Nat) : xrf (xsetr S a k r) a = va_up (xrf S a) k r := by funext j; simp [xrf, xsetr, va_up]
theorem xnew_kd (S : xSh) (kd n z b : Nat) : xkd (xnew S kd n z) b = if b = S.2.1 then kd else xkd S b := by unfold xkd xnew; by_cases h : b = S.2.1 <;> simp [h]
theorem xnew_o {V : xV} {S : xSh} {kd n z : Nat} {f : Nat → Int32} : ∀ b, b ≠ S.2.1 → (xnew S kd n z).1 b = S.1 b ∧ xrow V S.2.1 f b = V b := fun b hb => ⟨by simp [xnew, hb], by simp [xrow, hb]⟩
theorem xP_new {cy : Nat → ClassId} {D : va_G} {Bs : Nat} {S : xSh} {V : xV} {H H' : Heap} {kd n z : Nat} {f : Nat → Int32} (hP : xP cy D Bs S V H) (hB : Bs ≤ H.size) (e2 : H'.size = H.size + 1) (e3 : ∀ q : Nat, q < H.size → H'[q]? = H[q]?) (ha : xat cy D (xnew S kd n z) (xrow V S.2.1 f) S.2.1 H') : xP cy D Bs (xnew S kd n z) (xrow V S.2.1 f) H' := by
  have hsz := hP.1
  refine ⟨by rw [e2, hsz]; rfl, fun b => ?_⟩
  by_cases hb : b = S.2.1
  · subst hb
    refine ⟨fun _ _ => ⟨by rw [← hsz]; exact hB, Nat.lt_succ_self _⟩, ha⟩
  · obtain ⟨h1, h2⟩ := xnew_o (V := V) (S := S) (kd := kd) (n := n) (z := z) (f := f) b hb
    have k1 : xkd (xnew S kd n z) b = xkd S b := by unfold xkd; rw [h1]
    have k2 : xln (xnew S kd n z) b = xln S b := by unfold xln; rw [h1]
    have k3 : xrf (xnew S kd n z) b = xrf S b := by funext q; unfold xrf; rw [h1]
    unfold xat
    rw [k1, k2, k3, h2]
    obtain ⟨g1, g2, g3, g4⟩ := hP.2 b
    have lt : 1 ≤ xkd S b → xkd S b ≤ 11 → b < H.size := fun x y => by rw [hsz]; exact (g1 x y).2
    refine ⟨fun x y => ⟨(g1 x y).1, Nat.lt_succ_of_lt (g1 x y).2⟩, fun x y => (g2 x y).kept (e3 b (lt x (by omega))), fun x y => ?_, fun x y => ?_⟩
    · rw [e3 b (lt (by omega) (by omega))]; exact g3 x y
    · rw [e3 b (lt (by omega) (by omega))]; exact g4 x y
