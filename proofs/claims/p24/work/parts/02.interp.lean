/-! ===== a pure machine: what bytecode does to typed cells, as a Lean function over the machine's own decode ===== -/
/-- a method: its name, bytes, locals, what it returns, its class's number, its height -/
abbrev xM : Type := MethodName × ByteArray × Nat × Option FieldType × Nat × Nat
/-- the shape of the cells: kind, length, references, by address; the heap's size; the slots used -/
abbrev xSh : Type := (Nat → Nat × Nat × (Nat → Option Nat)) × Nat × Nat
/-- the ints of the cells, by address and place -/
abbrev xV : Type := Nat → Nat → Int32
/-- a step's outcome: on; a return; a call -/
abbrev xStep : Type := (Nat × List (Option Value) × List Value × xSh × xV) ⊕ (Option Value) ⊕ (xM × List Value × List Value)
def xkd (S : xSh) (a : Nat) : Nat := (S.1 a).1
def xln (S : xSh) (a : Nat) : Nat := (S.1 a).2.1
def xrf (S : xSh) (a k : Nat) : Option Nat := (S.1 a).2.2 k
def xup (V : xV) (a j : Nat) (v : Int32) : xV := fun b i => if b = a ∧ i = j then v else V b i
def xrow (V : xV) (a : Nat) (f : Nat → Int32) : xV := fun b => if b = a then f else V b
def xnew (S : xSh) (kd n z : Nat) : xSh := (fun b => if b = S.2.1 then (kd, n, fun _ => none) else S.1 b, S.2.1 + 1, S.2.2 + z)
def xsetr (S : xSh) (a k : Nat) (r : Option Nat) : xSh := (fun b => if b = a then ((S.1 a).1, (S.1 a).2.1, fun j => if j = k then r else (S.1 a).2.2 j) else S.1 b, S.2)
def xassoc {α : Type} : List ((Nat × Nat) × α) → Nat × Nat → Option α
  | [], _ => none
  | (k, a) :: l, n => if n = k then some a else xassoc l n
theorem xassoc_mem {α : Type} {n : Nat × Nat} {a : α} : ∀ {l : List ((Nat × Nat) × α)}, xassoc l n = some a → (n, a) ∈ l := by
  intro l
  induction l with
  | nil => intro h; cases h
  | cons q l ih =>
    obtain ⟨k, b⟩ := q
    intro h
    rw [xassoc] at h
    by_cases hk : n = k
    · rw [if_pos hk] at h
      cases h
      subst hk
      exact List.mem_cons_self
    · rw [if_neg hk] at h
      exact List.mem_cons_of_mem _ (ih h)
/-- fields of a kind: declaring class, name, descriptor, final; their types -/
def xT (kd : Nat) : u_T := match kd with
  | 1 => TX0
  | 2 => TX1
  | 3 => TX2
  | 4 => TX3
  | 5 => TX4
  | _ => fun _ => ("", "", "", false)
def xty (kd : Nat) : Nat → FieldType := match kd with
  | 1 => tyX0
  | 2 => tyX1
  | 3 => tyX2
  | 4 => tyX3
  | 5 => tyX4
  | _ => fun _ => .byte
def xcn (o : Nat) : String := match o with
  | 0 => RX0
  | 1 => RX1
  | 2 => RX2
  | 3 => RX3
  | 4 => RX4
  | 5 => RX5
  | 6 => RL
  | 9 => RJ9
  | _ => RJ6
def xN (kd : Nat) : Nat := match kd with
  | 1 => 11
  | 2 => 3
  | 3 => 6
  | 4 => 7
  | 5 => 6
  | _ => 0
def xisR (kd k : Nat) : Bool := match xty kd k with
  | .array _ => true
  | .object _ => true
  | _ => false
def xisZ (kd k : Nat) : Bool := match xty kd k with
  | .boolean => true
  | _ => false
def xlocAt (ls : List (Option Value)) (i : Nat) : Option Value := match ls[i]? with
  | some (some v) => some v
  | _ => none
/-- a long whose second half is stored over goes -/
def xclr (ls : List (Option Value)) (i : Nat) : List (Option Value) := match i with
  | 0 => ls
  | j + 1 => match xlocAt ls j with
    | some v => if v.category = 2 then ls.set j none else ls
    | none => ls
def xst1 (ls : List (Option Value)) (i : Nat) (v : Value) : List (Option Value) := (xclr ls i).set i (some v)
def xst2 (ls : List (Option Value)) (i : Nat) (v : Value) : List (Option Value) := ((xclr ls i).set i (some v)).set (i + 1) none
def xargs : List Value → List (Option Value)
  | [] => []
  | v :: vs => if v.category = 2 then some v :: none :: xargs vs else some v :: xargs vs
def xlocs (n : Nat) (vs : List Value) : List (Option Value) := xargs vs ++ List.replicate (n - (xargs vs).length) none
def xcat (st : List Value) : Nat := (st.map fun v => v.category).sum
def xcb (c : Jvm.ClassFile.Cond) (x y : Int32) : Bool := match c with
  | .eq => decide (x = y)
  | .ne => decide (¬ x = y)
  | .lt => decide (x < y)
  | .ge => decide (y ≤ x)
  | .gt => decide (y < x)
  | .le => decide (x ≤ y)
def xgo (pc : Nat) (ls : List (Option Value)) (st : List Value) (S : xSh) (V : xV) : Option xStep := some (.inl (pc, ls, st, S, V))
def xoff (pc : Nat) (off : Int) (ls : List (Option Value)) (st : List Value) (S : xSh) (V : xV) : Option xStep :=
  if 0 ≤ (pc : Int) + off then xgo ((pc : Int) + off).toNat ls st S V else none
