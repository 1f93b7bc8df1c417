section
-- ===== PART A: goes FIRST, ahead of the names: the tables' words, and 'selects' of the private methods out of them =====
/-- a private method of a class that the tables say can be made, by its rows of tables_1 -/
def lw_okq (q : MethodName × Nat) : Prop := (q.1.cls ≠ "java/lang/invoke/MethodHandle" ∧ q.1.cls ≠ "java/lang/invoke/VarHandle") ∧ Cond.instantiable q.1.cls q.2 ∈ tables_1 ∧ Cond.privateMethod q.1 ∈ tables_1 ∧ Cond.instanceMethod q.1 ∈ tables_1
theorem lw_p0 : lw_okq (⟨"TurnSlots$Machine", "sendersTo", "(I)I"⟩, 6) := ⟨⟨by decide +kernel, by decide +kernel⟩, List.mem_of_getElem? (i := 18) (by decide +kernel), List.mem_of_getElem? (i := 206) (by decide +kernel), List.mem_of_getElem? (i := 207) (by decide +kernel)⟩
theorem lw_p1 : lw_okq (⟨"TurnSlots", "tryNow", "()LTurnSlots$Machine;"⟩, 6) := ⟨⟨by decide +kernel, by decide +kernel⟩, List.mem_of_getElem? (i := 10) (by decide +kernel), List.mem_of_getElem? (i := 217) (by decide +kernel), List.mem_of_getElem? (i := 218) (by decide +kernel)⟩
theorem lw_p2 : lw_okq (⟨"TurnSlots$Machine", "runnerInSlotOf", "(I)I"⟩, 6) := ⟨⟨by decide +kernel, by decide +kernel⟩, List.mem_of_getElem? (i := 18) (by decide +kernel), List.mem_of_getElem? (i := 240) (by decide +kernel), List.mem_of_getElem? (i := 241) (by decide +kernel)⟩
theorem lw_p3 : lw_okq (⟨"TurnSlots$Machine", "account", "(II)V"⟩, 6) := ⟨⟨by decide +kernel, by decide +kernel⟩, List.mem_of_getElem? (i := 18) (by decide +kernel), List.mem_of_getElem? (i := 249) (by decide +kernel), List.mem_of_getElem? (i := 250) (by decide +kernel)⟩
theorem lw_p4 : lw_okq (⟨"TurnSlots$Machine", "runNextOf", "(I)V"⟩, 6) := ⟨⟨by decide +kernel, by decide +kernel⟩, List.mem_of_getElem? (i := 18) (by decide +kernel), List.mem_of_getElem? (i := 253) (by decide +kernel), List.mem_of_getElem? (i := 254) (by decide +kernel)⟩
theorem lw_p5 : lw_okq (⟨"TurnSlots$Machine", "freeIfHeldBy", "(II)V"⟩, 6) := ⟨⟨by decide +kernel, by decide +kernel⟩, List.mem_of_getElem? (i := 18) (by decide +kernel), List.mem_of_getElem? (i := 276) (by decide +kernel), List.mem_of_getElem? (i := 277) (by decide +kernel)⟩
def lw_privs_1 : List (MethodName × Nat) := [(⟨"TurnSlots$Machine", "sendersTo", "(I)I"⟩, 6), (⟨"TurnSlots", "tryNow", "()LTurnSlots$Machine;"⟩, 6), (⟨"TurnSlots$Machine", "runnerInSlotOf", "(I)I"⟩, 6), (⟨"TurnSlots$Machine", "account", "(II)V"⟩, 6), (⟨"TurnSlots$Machine", "runNextOf", "(I)V"⟩, 6), (⟨"TurnSlots$Machine", "freeIfHeldBy", "(II)V"⟩, 6)]
theorem lw_r1 : ∀ q ∈ lw_privs_1, lw_okq q := List.forall_mem_cons.mpr ⟨lw_p0, List.forall_mem_cons.mpr ⟨lw_p1, List.forall_mem_cons.mpr ⟨lw_p2, List.forall_mem_cons.mpr ⟨lw_p3, List.forall_mem_cons.mpr ⟨lw_p4, List.forall_mem_cons.mpr ⟨lw_p5, fun _ h => absurd h List.not_mem_nil⟩⟩⟩⟩⟩⟩
def lw_privs : List (MethodName × Nat) := lw_privs_1
def lw_tbl : List Cond := k2_sels lw_privs ++ tables_1
theorem lw_privs_ok : ∀ q ∈ lw_privs, lw_okq q := lw_r1
end
section
def RX0 : String := "TurnSlots$Context"
def TX0 : u_T := fun k => match k with
  | 0 => ("TurnSlots$Context", "kinds", "[I", true)
  | 1 => ("TurnSlots$Context", "numbers", "[I", true)
  | 2 => ("TurnSlots$Context", "messages", "[I", true)
  | 3 => ("TurnSlots$Context", "accounts", "[I", true)
  | 4 => ("TurnSlots$Context", "commands", "I", false)
  | 5 => ("TurnSlots$Context", "marks", "I", false)
  | 6 => ("TurnSlots$Context", "place", "I", false)
  | 7 => ("TurnSlots$Context", "sum", "I", false)
  | 8 => ("TurnSlots$Context", "priority", "I", false)
  | 9 => ("TurnSlots$Context", "received", "I", false)
  | _ => ("TurnSlots$Context", "sleep", "I", false)
def tyX0 : Nat → FieldType := fun k => match k with
  | 0 => .array .int
  | 1 => .array .int
  | 2 => .array .int
  | 3 => .array .int
  | 4 => .int
  | 5 => .int
  | 6 => .int
  | 7 => .int
  | 8 => .int
  | 9 => .int
  | _ => .int
theorem nmX0 : ∀ a, a < 11 → ∀ b, b < 11 → a ≠ b → (TX0 a).2.1 ≠ (TX0 b).2.1 := by decide +kernel
theorem tyX0_ok : ∀ k, k < 11 → parseFieldDescriptor (TX0 k).2.2.1 = some (tyX0 k) := by decide +kernel
abbrev cX0_init : ByteArray := prog_2_method_1_code
def yX0_init : MethodName := ⟨RX0, "<init>", "()V"⟩
abbrev cX0_copyFrom : ByteArray := prog_2_method_2_code
def yX0_copyFrom : MethodName := ⟨RX0, "copyFrom", "(LTurnSlots$Context;)V"⟩
abbrev cX0_append : ByteArray := prog_2_method_3_code
def yX0_append : MethodName := ⟨RX0, "append", "(II)V"⟩
abbrev cX0_receive : ByteArray := prog_2_method_5_code
def yX0_receive : MethodName := ⟨RX0, "receive", "(I)V"⟩
abbrev cX0_takeMessage : ByteArray := prog_2_method_6_code
def yX0_takeMessage : MethodName := ⟨RX0, "takeMessage", "()V"⟩
abbrev cX0_addToSum : ByteArray := prog_2_method_7_code
def yX0_addToSum : MethodName := ⟨RX0, "addToSum", "(I)V"⟩
abbrev cX0_goBack : ByteArray := prog_2_method_8_code
def yX0_goBack : MethodName := ⟨RX0, "goBack", "(I)V"⟩
def RX1 : String := "TurnSlots$History"
def TX1 : u_T := fun k => match k with
  | 0 => ("TurnSlots$History", "states", "[LTurnSlots$Machine;", true)
  | 1 => ("TurnSlots$History", "oldest", "I", false)
  | _ => ("TurnSlots$History", "size", "I", false)
def tyX1 : Nat → FieldType := fun k => match k with
  | 0 => .array (.object "TurnSlots$Machine")
  | 1 => .int
  | _ => .int
theorem nmX1 : ∀ a, a < 3 → ∀ b, b < 3 → a ≠ b → (TX1 a).2.1 ≠ (TX1 b).2.1 := by decide +kernel
theorem tyX1_ok : ∀ k, k < 3 → parseFieldDescriptor (TX1 k).2.2.1 = some (tyX1 k) := by decide +kernel
abbrev cX1_init : ByteArray := prog_3_method_1_code
def yX1_init : MethodName := ⟨RX1, "<init>", "()V"⟩
abbrev cX1_record : ByteArray := prog_3_method_2_code
def yX1_record : MethodName := ⟨RX1, "record", "(LTurnSlots$Machine;)V"⟩
abbrev cX1_takeBack : ByteArray := prog_3_method_3_code
def yX1_takeBack : MethodName := ⟨RX1, "takeBack", "(LTurnSlots$Machine;)V"⟩
def RX2 : String := "TurnSlots$Machine"
def TX2 : u_T := fun k => match k with
  | 0 => ("TurnSlots$Machine", "contexts", "[LTurnSlots$Context;", true)
  | 1 => ("TurnSlots$Machine", "holders", "[I", true)
  | 2 => ("TurnSlots$Machine", "allWaits", "[I", true)
  | 3 => ("TurnSlots$Machine", "passed", "I", false)
  | 4 => ("TurnSlots$Machine", "idled", "I", false)
  | _ => ("TurnSlots$Machine", "givenAway", "I", false)
def tyX2 : Nat → FieldType := fun k => match k with
  | 0 => .array (.object "TurnSlots$Context")
  | 1 => .array .int
  | 2 => .array .int
  | 3 => .int
  | 4 => .int
  | _ => .int
theorem nmX2 : ∀ a, a < 6 → ∀ b, b < 6 → a ≠ b → (TX2 a).2.1 ≠ (TX2 b).2.1 := by decide +kernel
theorem tyX2_ok : ∀ k, k < 6 → parseFieldDescriptor (TX2 k).2.2.1 = some (tyX2 k) := by decide +kernel
abbrev cX2_init : ByteArray := prog_4_method_1_code
def yX2_init : MethodName := ⟨RX2, "<init>", "()V"⟩
abbrev cX2_copyFrom : ByteArray := prog_4_method_2_code
def yX2_copyFrom : MethodName := ⟨RX2, "copyFrom", "(LTurnSlots$Machine;)V"⟩
abbrev cX2_stateOf : ByteArray := prog_4_method_3_code
def yX2_stateOf : MethodName := ⟨RX2, "stateOf", "(I)I"⟩
abbrev cX2_setIn : ByteArray := prog_4_method_4_code
def yX2_setIn : MethodName := ⟨RX2, "setIn", "(I)I"⟩
abbrev cX2_areDone : ByteArray := prog_4_method_5_code
def yX2_areDone : MethodName := ⟨RX2, "areDone", "(I)Z"⟩
abbrev cX2_isStuck : ByteArray := prog_4_method_6_code
def yX2_isStuck : MethodName := ⟨RX2, "isStuck", "()Z"⟩
abbrev cX2_waitsOf : ByteArray := prog_4_method_7_code
def yX2_waitsOf : MethodName := ⟨RX2, "waitsOf", "(I)I"⟩
abbrev cX2_sendersTo : ByteArray := prog_4_method_8_code
def yX2_sendersTo : MethodName := ⟨RX2, "sendersTo", "(I)I"⟩
abbrev cX2_findAllWaits : ByteArray := prog_4_method_9_code
def yX2_findAllWaits : MethodName := ⟨RX2, "findAllWaits", "()[I"⟩
abbrev cX2_lentPriority : ByteArray := prog_4_method_10_code
def yX2_lentPriority : MethodName := ⟨RX2, "lentPriority", "(I[I)I"⟩
abbrev cX2_ringSet : ByteArray := prog_4_method_11_code
def yX2_ringSet : MethodName := ⟨RX2, "ringSet", "()I"⟩
abbrev cX2_passSlots : ByteArray := prog_4_method_12_code
def yX2_passSlots : MethodName := ⟨RX2, "passSlots", "(I)I"⟩
abbrev cX2_passUntilDone : ByteArray := prog_4_method_13_code
def yX2_passUntilDone : MethodName := ⟨RX2, "passUntilDone", "(I)I"⟩
abbrev cX2_passSlot : ByteArray := prog_4_method_14_code
def yX2_passSlot : MethodName := ⟨RX2, "passSlot", "()I"⟩
abbrev cX2_runnerInSlotOf : ByteArray := prog_4_method_15_code
def yX2_runnerInSlotOf : MethodName := ⟨RX2, "runnerInSlotOf", "(I)I"⟩
abbrev cX2_account : ByteArray := prog_4_method_16_code
def yX2_account : MethodName := ⟨RX2, "account", "(II)V"⟩
abbrev cX2_runNextOf : ByteArray := prog_4_method_17_code
def yX2_runNextOf : MethodName := ⟨RX2, "runNextOf", "(I)V"⟩
abbrev cX2_freeIfHeldBy : ByteArray := prog_4_method_18_code
def yX2_freeIfHeldBy : MethodName := ⟨RX2, "freeIfHeldBy", "(II)V"⟩
def RX3 : String := "TurnSlots$Pad"
def TX3 : u_T := fun k => match k with
  | 0 => ("TurnSlots$Pad", "characters", "[C", true)
  | 1 => ("TurnSlots$Pad", "length", "I", false)
  | 2 => ("TurnSlots$Pad", "kinds", "[I", true)
  | 3 => ("TurnSlots$Pad", "numbers", "[I", true)
  | 4 => ("TurnSlots$Pad", "context", "I", false)
  | 5 => ("TurnSlots$Pad", "commands", "I", false)
  | _ => ("TurnSlots$Pad", "at", "I", false)
def tyX3 : Nat → FieldType := fun k => match k with
  | 0 => .array .char
  | 1 => .int
  | 2 => .array .int
  | 3 => .array .int
  | 4 => .int
  | 5 => .int
  | _ => .int
theorem nmX3 : ∀ a, a < 7 → ∀ b, b < 7 → a ≠ b → (TX3 a).2.1 ≠ (TX3 b).2.1 := by decide +kernel
theorem tyX3_ok : ∀ k, k < 7 → parseFieldDescriptor (TX3 k).2.2.1 = some (tyX3 k) := by decide +kernel
abbrev cX3_init : ByteArray := prog_5_method_1_code
def yX3_init : MethodName := ⟨RX3, "<init>", "()V"⟩
def RX4 : String := "TurnSlots"
def TX4 : u_T := fun k => match k with
  | 0 => ("TurnSlots", "now", "LTurnSlots$Machine;", true)
  | 1 => ("TurnSlots", "trial", "LTurnSlots$Machine;", true)
  | 2 => ("TurnSlots", "history", "LTurnSlots$History;", true)
  | 3 => ("TurnSlots", "saves", "[LTurnSlots$Machine;", true)
  | 4 => ("TurnSlots", "isSaved", "[Z", true)
  | _ => ("TurnSlots", "pad", "LTurnSlots$Pad;", true)
def tyX4 : Nat → FieldType := fun k => match k with
  | 0 => .object "TurnSlots$Machine"
  | 1 => .object "TurnSlots$Machine"
  | 2 => .object "TurnSlots$History"
  | 3 => .array (.object "TurnSlots$Machine")
  | 4 => .array .boolean
  | _ => .object "TurnSlots$Pad"
theorem nmX4 : ∀ a, a < 6 → ∀ b, b < 6 → a ≠ b → (TX4 a).2.1 ≠ (TX4 b).2.1 := by decide +kernel
theorem tyX4_ok : ∀ k, k < 6 → parseFieldDescriptor (TX4 k).2.2.1 = some (tyX4 k) := by decide +kernel
abbrev cX4_init : ByteArray := prog_1_method_1_code
def yX4_init : MethodName := ⟨RX4, "<init>", "()V"⟩
abbrev cX4_add : ByteArray := prog_1_method_2_code
def yX4_add : MethodName := ⟨RX4, "add", "(III)I"⟩
abbrev cX4_prefer : ByteArray := prog_1_method_4_code
def yX4_prefer : MethodName := ⟨RX4, "prefer", "(II)I"⟩
abbrev cX4_post : ByteArray := prog_1_method_5_code
def yX4_post : MethodName := ⟨RX4, "post", "(II)I"⟩
abbrev cX4_release : ByteArray := prog_1_method_6_code
def yX4_release : MethodName := ⟨RX4, "release", "(I)I"⟩
abbrev cX4_step : ByteArray := prog_1_method_7_code
def yX4_step : MethodName := ⟨RX4, "step", "(I)I"⟩
abbrev cX4_run : ByteArray := prog_1_method_8_code
def yX4_run : MethodName := ⟨RX4, "run", "()I"⟩
abbrev cX4_of : ByteArray := prog_1_method_9_code
def yX4_of : MethodName := ⟨RX4, "of", "(II)I"⟩
abbrev cX4_command : ByteArray := prog_1_method_10_code
def yX4_command : MethodName := ⟨RX4, "command", "(III)I"⟩
abbrev cX4_inbox : ByteArray := prog_1_method_11_code
def yX4_inbox : MethodName := ⟨RX4, "inbox", "(II)I"⟩
abbrev cX4_holder : ByteArray := prog_1_method_12_code
def yX4_holder : MethodName := ⟨RX4, "holder", "(I)I"⟩
abbrev cX4_count : ByteArray := prog_1_method_13_code
def yX4_count : MethodName := ⟨RX4, "count", "(I)I"⟩
abbrev cX4_slotsLeft : ByteArray := prog_1_method_14_code
def yX4_slotsLeft : MethodName := ⟨RX4, "slotsLeft", "()I"⟩
abbrev cX4_undo : ByteArray := prog_1_method_20_code
def yX4_undo : MethodName := ⟨RX4, "undo", "()I"⟩
abbrev cX4_save : ByteArray := prog_1_method_21_code
def yX4_save : MethodName := ⟨RX4, "save", "(I)I"⟩
abbrev cX4_restore : ByteArray := prog_1_method_22_code
def yX4_restore : MethodName := ⟨RX4, "restore", "(I)I"⟩
abbrev cX4_tryNow : ByteArray := prog_1_method_23_code
def yX4_tryNow : MethodName := ⟨RX4, "tryNow", "()LTurnSlots$Machine;"⟩
abbrev cX4_isContext : ByteArray := prog_1_method_24_code
def yX4_isContext : MethodName := ⟨RX4, "isContext", "(I)Z"⟩
abbrev cX4_isCommand : ByteArray := prog_1_method_25_code
def yX4_isCommand : MethodName := ⟨RX4, "isCommand", "(II)Z"⟩
abbrev cX4_isPriority : ByteArray := prog_1_method_26_code
def yX4_isPriority : MethodName := ⟨RX4, "isPriority", "(I)Z"⟩
abbrev cX4_isLock : ByteArray := prog_1_method_27_code
def yX4_isLock : MethodName := ⟨RX4, "isLock", "(I)Z"⟩
abbrev cX4_isStep : ByteArray := prog_1_method_28_code
def yX4_isStep : MethodName := ⟨RX4, "isStep", "(I)Z"⟩
abbrev cX4_isSave : ByteArray := prog_1_method_29_code
def yX4_isSave : MethodName := ⟨RX4, "isSave", "(I)Z"⟩
abbrev cX4_has : ByteArray := prog_1_method_30_code
def yX4_has : MethodName := ⟨RX4, "has", "(II)Z"⟩
def RX5 : String := "TurnSlotsModel"
def TX5 : u_T := fun k => match k with
  | _ => ("", "", "", false)
def tyX5 : Nat → FieldType := fun k => match k with
  | _ => .int
theorem nmX5 : ∀ a, a < 0 → ∀ b, b < 0 → a ≠ b → (TX5 a).2.1 ≠ (TX5 b).2.1 := by decide +kernel
theorem tyX5_ok : ∀ k, k < 0 → parseFieldDescriptor (TX5 k).2.2.1 = some (tyX5 k) := by decide +kernel
def RJ6 : String := "java/lang/Integer"
abbrev cJ6_bitCount_0f7a4 : ByteArray := prog_8_method_49_code
def yJ6_bitCount_0f7a4 : MethodName := ⟨RJ6, "bitCount", "(I)I"⟩
def RJ9 : String := "java/lang/Math"
abbrev cJ9_max_7cf53 : ByteArray := prog_9_method_65_code
def yJ9_max_7cf53 : MethodName := ⟨RJ9, "max", "(II)I"⟩
def RJ10 : String := "java/lang/System"
def RL : String := "TurnSlotsLaw"
abbrev cL_cell : ByteArray := method_2_code
def yL_cell : MethodName := ⟨RL, "cell", "([II)I"⟩
abbrev cL_low : ByteArray := method_3_code
def yL_low : MethodName := ⟨RL, "low", "(II)I"⟩
abbrev cL_digest : ByteArray := method_4_code
def yL_digest : MethodName := ⟨RL, "digest", "(LTurnSlots;)J"⟩
abbrev cL_act : ByteArray := method_5_code
def yL_act : MethodName := ⟨RL, "act", "(LTurnSlots;II)I"⟩
abbrev cL_addsUp : ByteArray := method_6_code
def yL_addsUp : MethodName := ⟨RL, "addsUp", "(LTurnSlots;)Z"⟩
abbrev cL_law : ByteArray := code
def yL_law : MethodName := ⟨RL, "law", "([I)Z"⟩
abbrev vwCl : List vw_C := [(RX0, TX0, 11), (RX1, TX1, 3), (RX2, TX2, 6), (RX3, TX3, 7), (RX4, TX4, 6)]
end
section
/-! ===== a pure machine: what bytecode does to typed cells, as a Lean function over the machine's own decode ===== -/
/-- a method: its name, bytes, locals, what it returns, its class's number, its height -/
abbrev xM : Type := MethodName × ByteArray × Nat × Option FieldType × Nat × Nat
/-- the shape of the cells: kind, length, references, by address; the heap's size; the slots used -/
abbrev xSh : Type := (Nat → Nat × Nat × (Nat → Option Nat)) × Nat × Nat
/-- the ints of the cells, by address and place -/
abbrev xV : Type := Nat → Nat → Int32
/-- a step's outcome: on; a return; a call -/
abbrev xStep : Type := (Nat × List (Option Value) × List Value × xSh × xV) ⊕ (Option Value) ⊕ (xM × List Value × List Value)
def xkd (S : xSh) (a : Nat) : Nat := (S.1 a).1
def xln (S : xSh) (a : Nat) : Nat := (S.1 a).2.1
def xrf (S : xSh) (a k : Nat) : Option Nat := (S.1 a).2.2 k
def xup (V : xV) (a j : Nat) (v : Int32) : xV := fun b i => if b = a ∧ i = j then v else V b i
def xrow (V : xV) (a : Nat) (f : Nat → Int32) : xV := fun b => if b = a then f else V b
def xnew (S : xSh) (kd n z : Nat) : xSh := (fun b => if b = S.2.1 then (kd, n, fun _ => none) else S.1 b, S.2.1 + 1, S.2.2 + z)
def xsetr (S : xSh) (a k : Nat) (r : Option Nat) : xSh := (fun b => if b = a then ((S.1 a).1, (S.1 a).2.1, fun j => if j = k then r else (S.1 a).2.2 j) else S.1 b, S.2)
def xassoc {α : Type} : List ((Nat × Nat) × α) → Nat × Nat → Option α
  | [], _ => none
  | (k, a) :: l, n => if n = k then some a else xassoc l n
theorem xassoc_mem {α : Type} {n : Nat × Nat} {a : α} : ∀ {l : List ((Nat × Nat) × α)}, xassoc l n = some a → (n, a) ∈ l := by
  intro l
  induction l with
  | nil => intro h; cases h
  | cons q l ih =>
    obtain ⟨k, b⟩ := q
    intro h
    rw [xassoc] at h
    by_cases hk : n = k
    · rw [if_pos hk] at h
      cases h
      subst hk
      exact List.mem_cons_self
    · rw [if_neg hk] at h
      exact List.mem_cons_of_mem _ (ih h)
/-- fields of a kind: declaring class, name, descriptor, final; their types -/
def xT (kd : Nat) : u_T := match kd with
  | 1 => TX0
  | 2 => TX1
  | 3 => TX2
  | 4 => TX3
  | 5 => TX4
  | _ => fun _ => ("", "", "", false)
def xty (kd : Nat) : Nat → FieldType := match kd with
  | 1 => tyX0
  | 2 => tyX1
  | 3 => tyX2
  | 4 => tyX3
  | 5 => tyX4
  | _ => fun _ => .byte
def xcn (o : Nat) : String := match o with
  | 0 => RX0
  | 1 => RX1
  | 2 => RX2
  | 3 => RX3
  | 4 => RX4
  | 5 => RX5
  | 6 => RL
  | 9 => RJ9
  | _ => RJ6
def xN (kd : Nat) : Nat := match kd with
  | 1 => 11
  | 2 => 3
  | 3 => 6
  | 4 => 7
  | 5 => 6
  | _ => 0
def xisR (kd k : Nat) : Bool := match xty kd k with
  | .array _ => true
  | .object _ => true
  | _ => false
def xisZ (kd k : Nat) : Bool := match xty kd k with
  | .boolean => true
  | _ => false
def xlocAt (ls : List (Option Value)) (i : Nat) : Option Value := match ls[i]? with
  | some (some v) => some v
  | _ => none
/-- a long whose second half is stored over goes -/
def xclr (ls : List (Option Value)) (i : Nat) : List (Option Value) := match i with
  | 0 => ls
  | j + 1 => match xlocAt ls j with
    | some v => if v.category = 2 then ls.set j none else ls
    | none => ls
def xst1 (ls : List (Option Value)) (i : Nat) (v : Value) : List (Option Value) := (xclr ls i).set i (some v)
def xst2 (ls : List (Option Value)) (i : Nat) (v : Value) : List (Option Value) := ((xclr ls i).set i (some v)).set (i + 1) none
def xargs : List Value → List (Option Value)
  | [] => []
  | v :: vs => if v.category = 2 then some v :: none :: xargs vs else some v :: xargs vs
def xlocs (n : Nat) (vs : List Value) : List (Option Value) := xargs vs ++ List.replicate (n - (xargs vs).length) none
def xcat (st : List Value) : Nat := (st.map fun v => v.category).sum
def xcb (c : Jvm.ClassFile.Cond) (x y : Int32) : Bool := match c with
  | .eq => decide (x = y)
  | .ne => decide (¬ x = y)
  | .lt => decide (x < y)
  | .ge => decide (y ≤ x)
  | .gt => decide (y < x)
  | .le => decide (x ≤ y)
def xgo (pc : Nat) (ls : List (Option Value)) (st : List Value) (S : xSh) (V : xV) : Option xStep := some (.inl (pc, ls, st, S, V))
def xoff (pc : Nat) (off : Int) (ls : List (Option Value)) (st : List Value) (S : xSh) (V : xV) : Option xStep :=
  if 0 ≤ (pc : Int) + off then xgo ((pc : Int) + off).toNat ls st S V else none
end
section
/-! ===== methods and links, by program out of the printed words ===== -/
def mX0_addToSum : xM := (yX0_addToSum, cX0_addToSum, 2, none, 0, 0)
def mX0_append : xM := (yX0_append, cX0_append, 3, none, 0, 0)
def mX0_receive : xM := (yX0_receive, cX0_receive, 2, none, 0, 0)
def mX2_account : xM := (yX2_account, cX2_account, 3, none, 2, 0)
def mX2_freeIfHeldBy : xM := (yX2_freeIfHeldBy, cX2_freeIfHeldBy, 3, none, 2, 0)
def mX2_sendersTo : xM := (yX2_sendersTo, cX2_sendersTo, 6, some .int, 2, 0)
def mX2_stateOf : xM := (yX2_stateOf, cX2_stateOf, 4, some .int, 2, 0)
def mX4_has : xM := (yX4_has, cX4_has, 2, some .boolean, 4, 0)
def mX4_isCommand : xM := (yX4_isCommand, cX4_isCommand, 2, some .boolean, 4, 0)
def mX4_isContext : xM := (yX4_isContext, cX4_isContext, 1, some .boolean, 4, 0)
def mX4_isLock : xM := (yX4_isLock, cX4_isLock, 1, some .boolean, 4, 0)
def mX4_isPriority : xM := (yX4_isPriority, cX4_isPriority, 1, some .boolean, 4, 0)
def mX4_isSave : xM := (yX4_isSave, cX4_isSave, 1, some .boolean, 4, 0)
def mX4_isStep : xM := (yX4_isStep, cX4_isStep, 1, some .boolean, 4, 0)
def mL_cell : xM := (yL_cell, cL_cell, 2, some .int, 6, 0)
def mL_low : xM := (yL_low, cL_low, 2, some .int, 6, 0)
def mJ6_bitCount_0f7a4 : xM := (yJ6_bitCount_0f7a4, cJ6_bitCount_0f7a4, 1, some .int, 10, 0)
def mX0_init : xM := (yX0_init, cX0_init, 1, none, 0, 1)
def mX0_copyFrom : xM := (yX0_copyFrom, cX0_copyFrom, 2, none, 0, 1)
def mX0_goBack : xM := (yX0_goBack, cX0_goBack, 3, none, 0, 1)
def mX0_takeMessage : xM := (yX0_takeMessage, cX0_takeMessage, 1, none, 0, 1)
def mX2_areDone : xM := (yX2_areDone, cX2_areDone, 3, some .boolean, 2, 1)
def mX2_isStuck : xM := (yX2_isStuck, cX2_isStuck, 4, some .boolean, 2, 1)
def mX2_lentPriority : xM := (yX2_lentPriority, cX2_lentPriority, 5, some .int, 2, 1)
def mX2_setIn : xM := (yX2_setIn, cX2_setIn, 4, some .int, 2, 1)
def mX2_waitsOf : xM := (yX2_waitsOf, cX2_waitsOf, 3, some .int, 2, 1)
def mX3_init : xM := (yX3_init, cX3_init, 1, none, 3, 1)
def mX4_command : xM := (yX4_command, cX4_command, 5, some .int, 4, 1)
def mX4_holder : xM := (yX4_holder, cX4_holder, 2, some .int, 4, 1)
def mX4_inbox : xM := (yX4_inbox, cX4_inbox, 4, some .int, 4, 1)
def mX2_init : xM := (yX2_init, cX2_init, 2, none, 2, 2)
def mX2_copyFrom : xM := (yX2_copyFrom, cX2_copyFrom, 3, none, 2, 2)
def mX2_findAllWaits : xM := (yX2_findAllWaits, cX2_findAllWaits, 3, some (.array .int), 2, 2)
def mX2_runNextOf : xM := (yX2_runNextOf, cX2_runNextOf, 5, none, 2, 2)
def mX1_init : xM := (yX1_init, cX1_init, 2, none, 1, 3)
def mX1_record : xM := (yX1_record, cX1_record, 2, none, 1, 3)
def mX1_takeBack : xM := (yX1_takeBack, cX1_takeBack, 2, none, 1, 3)
def mX2_ringSet : xM := (yX2_ringSet, cX2_ringSet, 4, some .int, 2, 3)
def mX2_runnerInSlotOf : xM := (yX2_runnerInSlotOf, cX2_runnerInSlotOf, 9, some .int, 2, 3)
def mX4_save : xM := (yX4_save, cX4_save, 2, some .int, 4, 3)
def mX4_tryNow : xM := (yX4_tryNow, cX4_tryNow, 1, some (.object "TurnSlots$Machine"), 4, 3)
def mX2_passSlot : xM := (yX2_passSlot, cX2_passSlot, 3, some .int, 2, 4)
def mX4_init : xM := (yX4_init, cX4_init, 2, none, 4, 4)
def mX4_add : xM := (yX4_add, cX4_add, 5, some .int, 4, 4)
def mX4_of : xM := (yX4_of, cX4_of, 4, some .int, 4, 4)
def mX4_post : xM := (yX4_post, cX4_post, 4, some .int, 4, 4)
def mX4_prefer : xM := (yX4_prefer, cX4_prefer, 4, some .int, 4, 4)
def mX4_release : xM := (yX4_release, cX4_release, 3, some .int, 4, 4)
def mX4_restore : xM := (yX4_restore, cX4_restore, 2, some .int, 4, 4)
def mX4_undo : xM := (yX4_undo, cX4_undo, 1, some .int, 4, 4)
def mX2_passSlots : xM := (yX2_passSlots, cX2_passSlots, 4, some .int, 2, 5)
def mX2_passUntilDone : xM := (yX2_passUntilDone, cX2_passUntilDone, 3, some .int, 2, 5)
def mX4_count : xM := (yX4_count, cX4_count, 2, some .int, 4, 5)
def mX4_run : xM := (yX4_run, cX4_run, 1, some .int, 4, 6)
def mX4_slotsLeft : xM := (yX4_slotsLeft, cX4_slotsLeft, 2, some .int, 4, 6)
def mX4_step : xM := (yX4_step, cX4_step, 2, some .int, 4, 6)
def mL_addsUp : xM := (yL_addsUp, cL_addsUp, 15, some .boolean, 6, 6)
def mL_digest : xM := (yL_digest, cL_digest, 5, some .long, 6, 6)
def mL_act : xM := (yL_act, cL_act, 6, some .int, 6, 7)
def mL_law : xM := (yL_law, cL_law, 15, some .boolean, 6, 8)
def xFt : List ((Nat × Nat) × (Nat × Nat)) := [((0, 9), (1, 0)), ((0, 15), (1, 1)), ((0, 18), (1, 2)), ((0, 21), (1, 3)), ((0, 30), (1, 4)), ((0, 34), (1, 5)), ((0, 37), (1, 6)), ((0, 40), (1, 7)), ((0, 43), (1, 8)), ((0, 46), (1, 9)), ((0, 49), (1, 10)), ((1, 11), (2, 0)), ((1, 18), (2, 1)), ((1, 22), (2, 2)), ((2, 11), (3, 0)), ((2, 17), (3, 1)), ((2, 21), (3, 2)), ((2, 35), (3, 3)), ((2, 39), (3, 4)), ((2, 42), (3, 5)), ((2, 45), (1, 6)), ((2, 48), (1, 4)), ((2, 51), (1, 10)), ((2, 54), (1, 1)), ((2, 57), (1, 0)), ((2, 60), (1, 9)), ((2, 77), (1, 8)), ((2, 120), (1, 3)), ((2, 129), (1, 7)), ((3, 9), (4, 0)), ((3, 15), (4, 2)), ((3, 19), (4, 3)), ((4, 10), (5, 0)), ((4, 16), (5, 1)), ((4, 22), (5, 2)), ((4, 26), (5, 3)), ((4, 30), (5, 4)), ((4, 37), (5, 5)), ((4, 49), (3, 0)), ((4, 53), (1, 4)), ((4, 78), (4, 1)), ((4, 84), (1, 8)), ((4, 87), (1, 9)), ((4, 97), (3, 1)), ((4, 104), (3, 3)), ((4, 116), (1, 6)), ((4, 119), (1, 7)), ((4, 130), (1, 10)), ((4, 145), (1, 3)), ((4, 148), (1, 0)), ((4, 151), (1, 1)), ((4, 154), (1, 5)), ((4, 157), (1, 2)), ((4, 172), (3, 4)), ((4, 175), (3, 5)), ((4, 185), (2, 2))]
def xSt : List ((Nat × Nat) × Nat) := [((4, 207), 0), ((4, 210), 1)]
def xCt : List ((Nat × Nat) × (xM × Nat × Nat)) := [((0, 61), (mX0_addToSum, 1, 0)), ((0, 65), (mX4_has, 2, 3)), ((1, 17), (mX2_init, 0, 2)), ((1, 25), (mX2_copyFrom, 1, 0)), ((2, 24), (mX0_init, 0, 4)), ((2, 25), (mX0_copyFrom, 1, 0)), ((2, 63), (mX2_stateOf, 1, 0)), ((2, 67), (mX4_has, 2, 3)), ((2, 71), (mX2_sendersTo, 1, 0)), ((2, 74), (mX2_waitsOf, 1, 0)), ((2, 86), (mX2_findAllWaits, 0, 0)), ((2, 90), (mX2_passSlot, 0, 0)), ((2, 94), (mX2_areDone, 1, 0)), ((2, 98), (mX2_isStuck, 0, 0)), ((2, 102), (mX2_runnerInSlotOf, 1, 0)), ((2, 105), (mX2_account, 2, 0)), ((2, 109), (mX2_runNextOf, 1, 0)), ((2, 113), (mX2_setIn, 1, 0)), ((2, 116), (mX2_lentPriority, 2, 0)), ((2, 123), (mX0_goBack, 1, 0)), ((2, 126), (mX0_addToSum, 1, 0)), ((2, 132), (mX0_receive, 1, 0)), ((2, 135), (mX0_takeMessage, 0, 0)), ((2, 138), (mX2_freeIfHeldBy, 2, 0)), ((4, 9), (mX2_init, 0, 2)), ((4, 21), (mX1_init, 0, 2)), ((4, 36), (mX3_init, 0, 4)), ((4, 41), (mX4_isContext, 1, 1)), ((4, 45), (mX4_isCommand, 2, 1)), ((4, 59), (mX1_record, 1, 0)), ((4, 63), (mX0_append, 2, 0)), ((4, 81), (mX4_isPriority, 1, 1)), ((4, 90), (mX0_receive, 1, 0)), ((4, 94), (mX4_isLock, 1, 1)), ((4, 101), (mX4_isStep, 1, 1)), ((4, 108), (mX2_passSlots, 1, 0)), ((4, 113), (mX2_passUntilDone, 1, 0)), ((4, 122), (mX2_findAllWaits, 0, 0)), ((4, 126), (mX2_lentPriority, 2, 0)), ((4, 133), (mX2_stateOf, 1, 0)), ((4, 136), (mX2_waitsOf, 1, 0)), ((4, 139), (mX2_ringSet, 0, 0)), ((4, 142), (mX4_has, 2, 1)), ((4, 160), (mX2_setIn, 1, 0)), ((4, 163), (mJ6_bitCount_0f7a4, 1, 1)), ((4, 168), (mX2_isStuck, 0, 0)), ((4, 178), (mX4_tryNow, 0, 0)), ((4, 182), (mX2_passSlot, 0, 0)), ((4, 188), (mX2_areDone, 1, 0)), ((4, 198), (mX1_takeBack, 1, 0)), ((4, 201), (mX4_isSave, 1, 1)), ((4, 204), (mX2_copyFrom, 1, 0)), ((6, 12), (mX4_count, 1, 0)), ((6, 18), (mX4_of, 2, 0)), ((6, 22), (mX4_inbox, 2, 0)), ((6, 25), (mX4_command, 3, 0)), ((6, 29), (mX4_holder, 1, 0)), ((6, 32), (mL_low, 2, 1)), ((6, 37), (mX4_prefer, 2, 0)), ((6, 40), (mX4_post, 2, 0)), ((6, 43), (mX4_release, 1, 0)), ((6, 46), (mX4_run, 0, 0)), ((6, 50), (mX4_step, 1, 0)), ((6, 53), (mX4_add, 3, 0)), ((6, 56), (mX4_init, 0, 2)), ((6, 57), (mL_digest, 1, 1)), ((6, 61), (mX4_save, 1, 0)), ((6, 64), (mX4_undo, 0, 0)), ((6, 67), (mX4_restore, 1, 0)), ((6, 70), (mL_cell, 2, 1)), ((6, 74), (mL_act, 3, 1)), ((6, 78), (mL_addsUp, 1, 1)), ((6, 82), (mX4_slotsLeft, 0, 0))]
def xIt : List ((Nat × Nat) × Int32) := [((4, 107), 100000), ((4, 112), 99000), ((6, 7), 2147483647), ((10, 265), 1431655765), ((10, 266), 858993459), ((10, 267), 252645135)]
def xJt : List ((Nat × Nat) × Int64) := [((6, 8), 3), ((6, 10), 31)]
def xKt : List ((Nat × Nat) × Nat) := [((1, 9), 2), ((2, 9), 0), ((4, 7), 2), ((4, 19), 1), ((4, 34), 3), ((6, 13), 4)]
def xAt : List (Nat × Nat) := [(0, 24), (2, 29)]
def xOt : List (Nat × Nat) := [(4, 1), (2, 3), (0, 3), (1, 3), (3, 3)]
def xMt : List ((Nat × Nat) × Nat) := [((0, 69), 0), ((2, 80), 0)]
end
section
def xown (m : xM) : Nat := m.2.2.2.2.1
def xht (m : xM) : Nat := m.2.2.2.2.2
def xkey (m : xM) (x : Nat) : Nat × Nat := (xown m, x)
/-- the kind of a class's objects, by the class's number -/
def xkdo (o : Nat) : Nat := if o = 7 then 13 else o + 1
def xcall (m y : xM) (n : Nat) (as rest st : List Value) : Option xStep :=
  if n ≤ st.length ∧ xcat rest ≤ 8 ∧ xht y < xht m ∧ (xargs as).length ≤ y.2.2.1 then some (.inr (.inr (y, as, rest))) else none
def xdo (E : Nat × Nat × Nat) (m : xM) (i : Instr) (k pc : Nat) (ls : List (Option Value)) (st : List Value) (S : xSh) (V : xV) : Option xStep :=
  match i with
  | .iconst n => if k = 1 then xgo (pc + 1) ls (.int (Int32.ofInt n) :: st) S V else none
  | .bipush n => if k = 2 then xgo (pc + 2) ls (.int (Int8.ofInt n).toInt32 :: st) S V else none
  | .sipush n => if k = 3 then xgo (pc + 3) ls (.int (Int16.ofInt n).toInt32 :: st) S V else none
  | .lconst n => if k = 1 then xgo (pc + 1) ls (.long (Int64.ofNat (n : Nat)) :: st) S V else none
  | .ldc x => if k = 2 then (match xassoc xIt (xkey m x) with
      | some v => xgo (pc + 2) ls (.int v :: st) S V
      | none => none) else none
  | .ldc_w x => if k = 3 then (match xassoc xIt (xkey m x) with
      | some v => xgo (pc + 3) ls (.int v :: st) S V
      | none => none) else none
  | .ldc2_w x => if k = 3 then (match xassoc xJt (xkey m x) with
      | some v => xgo (pc + 3) ls (.long v :: st) S V
      | none => none) else none
  | .iload_n j => if k = 1 then (match xlocAt ls (j : Nat) with
      | some (.int x) => xgo (pc + 1) ls (.int x :: st) S V
      | _ => none) else none
  | .iload j => if k = 2 then (match xlocAt ls j with
      | some (.int x) => xgo (pc + 2) ls (.int x :: st) S V
      | _ => none) else none
  | .lload_n j => if k = 1 then (match xlocAt ls (j : Nat) with
      | some (.long x) => xgo (pc + 1) ls (.long x :: st) S V
      | _ => none) else none
  | .lload j => if k = 2 then (match xlocAt ls j with
      | some (.long x) => xgo (pc + 2) ls (.long x :: st) S V
      | _ => none) else none
  | .aload_n j => if k = 1 then (match xlocAt ls (j : Nat) with
      | some (.ref x) => xgo (pc + 1) ls (.ref x :: st) S V
      | _ => none) else none
  | .aload j => if k = 2 then (match xlocAt ls j with
      | some (.ref x) => xgo (pc + 2) ls (.ref x :: st) S V
      | _ => none) else none
  | .istore_n j => if k = 1 then (match st with
      | .int x :: st => if (j : Nat) < ls.length then xgo (pc + 1) (xst1 ls (j : Nat) (.int x)) st S V else none
      | _ => none) else none
  | .istore j => if k = 2 then (match st with
      | .int x :: st => if j < ls.length then xgo (pc + 2) (xst1 ls j (.int x)) st S V else none
      | _ => none) else none
  | .lstore_n j => if k = 1 then (match st with
      | .long x :: st => if (j : Nat) + 1 < ls.length then xgo (pc + 1) (xst2 ls (j : Nat) (.long x)) st S V else none
      | _ => none) else none
  | .lstore j => if k = 2 then (match st with
      | .long x :: st => if j + 1 < ls.length then xgo (pc + 2) (xst2 ls j (.long x)) st S V else none
      | _ => none) else none
  | .astore_n j => if k = 1 then (match st with
      | .ref x :: st => if (j : Nat) < ls.length then xgo (pc + 1) (xst1 ls (j : Nat) (.ref x)) st S V else none
      | _ => none) else none
  | .astore j => if k = 2 then (match st with
      | .ref x :: st => if j < ls.length then xgo (pc + 2) (xst1 ls j (.ref x)) st S V else none
      | _ => none) else none
  | .iinc j n => if k = 3 then (match xlocAt ls j with
      | some (.int x) => if j < ls.length then xgo (pc + 3) (xst1 ls j (.int (x + Int32.ofInt n))) st S V else none
      | _ => none) else none
  | .iadd => if k = 1 then (match st with
      | .int y :: .int x :: st => xgo (pc + 1) ls (.int (x + y) :: st) S V
      | _ => none) else none
  | .isub => if k = 1 then (match st with
      | .int y :: .int x :: st => xgo (pc + 1) ls (.int (x - y) :: st) S V
      | _ => none) else none
  | .imul => if k = 1 then (match st with
      | .int y :: .int x :: st => xgo (pc + 1) ls (.int (x * y) :: st) S V
      | _ => none) else none
  | .iand => if k = 1 then (match st with
      | .int y :: .int x :: st => xgo (pc + 1) ls (.int (x &&& y) :: st) S V
      | _ => none) else none
  | .ior => if k = 1 then (match st with
      | .int y :: .int x :: st => xgo (pc + 1) ls (.int (x ||| y) :: st) S V
      | _ => none) else none
  | .ixor => if k = 1 then (match st with
      | .int y :: .int x :: st => xgo (pc + 1) ls (.int (x ^^^ y) :: st) S V
      | _ => none) else none
  | .ishl => if k = 1 then (match st with
      | .int y :: .int x :: st => xgo (pc + 1) ls (.int (x <<< (y &&& 31)) :: st) S V
      | _ => none) else none
  | .ishr => if k = 1 then (match st with
      | .int y :: .int x :: st => xgo (pc + 1) ls (.int (x >>> (y &&& 31)) :: st) S V
      | _ => none) else none
  | .iushr => if k = 1 then (match st with
      | .int y :: .int x :: st => xgo (pc + 1) ls (.int (x.toUInt32 >>> (y.toUInt32 &&& Int32.toUInt32 31)).toInt32 :: st) S V
      | _ => none) else none
  | .irem => if k = 1 then (match st with
      | .int y :: .int x :: st => if y = 0 then none else xgo (pc + 1) ls (.int (x - x / y * y) :: st) S V
      | _ => none) else none
  | .idiv => if k = 1 then (match st with
      | .int y :: .int x :: st => if y = 0 then none else xgo (pc + 1) ls (.int (x / y) :: st) S V
      | _ => none) else none
  | .ladd => if k = 1 then (match st with
      | .long y :: .long x :: st => xgo (pc + 1) ls (.long (x + y) :: st) S V
      | _ => none) else none
  | .lmul => if k = 1 then (match st with
      | .long y :: .long x :: st => xgo (pc + 1) ls (.long (x * y) :: st) S V
      | _ => none) else none
  | .land => if k = 1 then (match st with
      | .long y :: .long x :: st => xgo (pc + 1) ls (.long (x &&& y) :: st) S V
      | _ => none) else none
  | .lor => if k = 1 then (match st with
      | .long y :: .long x :: st => xgo (pc + 1) ls (.long (x ||| y) :: st) S V
      | _ => none) else none
  | .lshl => if k = 1 then (match st with
      | .int y :: .long x :: st => xgo (pc + 1) ls (.long (x <<< (y.toInt64 &&& 63)) :: st) S V
      | _ => none) else none
  | .lushr => if k = 1 then (match st with
      | .int y :: .long x :: st => xgo (pc + 1) ls (.long (x.toUInt64 >>> (y.toInt64.toUInt64 &&& Int64.toUInt64 63)).toInt64 :: st) S V
      | _ => none) else none
  | .lcmp => if k = 1 then (match st with
      | .long y :: .long x :: st => xgo (pc + 1) ls (.int (lg_cmp x y) :: st) S V
      | _ => none) else none
  | .i2l => if k = 1 then (match st with
      | .int x :: st => xgo (pc + 1) ls (.long x.toInt64 :: st) S V
      | _ => none) else none
  | .l2i => if k = 1 then (match st with
      | .long x :: st => xgo (pc + 1) ls (.int x.toInt32 :: st) S V
      | _ => none) else none
  | .i2c => if k = 1 then (match st with
      | .int x :: st => xgo (pc + 1) ls (.int (x.toUInt32 % 65536).toInt32 :: st) S V
      | _ => none) else none
  | .i2b => if k = 1 then (match st with
      | .int x :: st => xgo (pc + 1) ls (.int x.toInt8.toInt32 :: st) S V
      | _ => none) else none
  | .dup => if k = 1 then (match st with
      | v :: st => if v.category = 1 then xgo (pc + 1) ls (v :: v :: st) S V else none
      | _ => none) else none
  | .dup2 => if k = 1 then (match st with
      | v :: w :: st => if v.category = 1 ∧ w.category = 1 then xgo (pc + 1) ls (v :: w :: v :: w :: st) S V else none
      | _ => none) else none
  | .pop => if k = 1 then (match st with
      | v :: st => if v.category = 1 then xgo (pc + 1) ls st S V else none
      | _ => none) else none
  | .ifCond c off => if k = 3 then (match st with
      | .int x :: st => if xcb c x 0 = true then xoff pc off ls st S V else xgo (pc + 3) ls st S V
      | _ => none) else none
  | .if_icmp c off => if k = 3 then (match st with
      | .int y :: .int x :: st => if xcb c x y = true then xoff pc off ls st S V else xgo (pc + 3) ls st S V
      | _ => none) else none
  | .goto off => if k = 3 then xoff pc off ls st S V else none
  | .tableswitch d lo hi offs => match st with
      | .int x :: st => if x.toInt < lo ∨ hi < x.toInt then xoff pc d ls st S V else (match offs[(x.toInt - lo).toNat]? with
        | some off => xoff pc off ls st S V
        | none => none)
      | _ => none
  | .lookupswitch d ps => match st with
      | .int x :: st => if (ps.toList.zip (ps.toList.drop 1)).all (fun (a, next) => a.1 < next.1) = true then xoff pc (Op.lookupswitch.offset ps.toList d x.toInt) ls st S V else none
      | _ => none
  | .getfield x => if k = 3 then (match st with
      | .ref a :: st => (match xassoc xFt (xkey m x) with
        | some (kd, j) => if xkd S a = kd then xgo (pc + 3) ls ((if xisR kd j = true then va_rf (xrf S a j) else .int (V a j)) :: st) S V else none
        | none => none)
      | _ => none) else none
  | .putfield x => if k = 3 then (match xassoc xFt (xkey m x) with
      | some (kd, j) => (match st with
        | .int v :: .ref a :: st => if xkd S a = kd ∧ kd ≤ 6 ∧ xisR kd j = false ∧ (xisZ kd j = true → v = 0 ∨ v = 1) then xgo (pc + 3) ls st S (xup V a j v) else none
        | .ref v :: .ref a :: st => if xkd S a = kd ∧ kd ≤ 6 ∧ xisR kd j = true ∧ m.1.name = "<init>" ∧ xown m + 1 = kd then xgo (pc + 3) ls st (xsetr S a j (some v)) V else none
        | _ => none)
      | none => none) else none
  | .getstatic x => if k = 3 then (match xassoc xSt (xkey m x) with
      | some 0 => xgo (pc + 3) ls (.ref E.1 :: st) S V
      | some 1 => xgo (pc + 3) ls (.ref E.2.1 :: st) S V
      | _ => none) else none
  | .iaload => if k = 1 then (match st with
      | .int j :: .ref a :: st => if (xkd S a = 7 ∨ xkd S a = 14) ∧ ¬ (j < 0 ∨ xln S a ≤ j.toNatClampNeg) then xgo (pc + 1) ls (.int (V a j.toNatClampNeg) :: st) S V else none
      | _ => none) else none
  | .baload => if k = 1 then (match st with
      | .int j :: .ref a :: st => if (xkd S a = 9 ∨ xkd S a = 12) ∧ ¬ (j < 0 ∨ xln S a ≤ j.toNatClampNeg) then xgo (pc + 1) ls (.int (V a j.toNatClampNeg) :: st) S V else none
      | _ => none) else none
  | .caload => if k = 1 then (match st with
      | .int j :: .ref a :: st => if xkd S a = 8 ∧ ¬ (j < 0 ∨ xln S a ≤ j.toNatClampNeg) then xgo (pc + 1) ls (.int (V a j.toNatClampNeg) :: st) S V else none
      | _ => none) else none
  | .aaload => if k = 1 then (match st with
      | .int j :: .ref a :: st => if (xkd S a = 10 ∨ xkd S a = 11) ∧ ¬ (j < 0 ∨ xln S a ≤ j.toNatClampNeg) then xgo (pc + 1) ls (va_rf (xrf S a j.toNatClampNeg) :: st) S V else none
      | _ => none) else none
  | .iastore => if k = 1 then (match st with
      | .int v :: .int j :: .ref a :: st => if xkd S a = 7 ∧ ¬ (j < 0 ∨ xln S a ≤ j.toNatClampNeg) then xgo (pc + 1) ls st S (xup V a j.toNatClampNeg v) else none
      | _ => none) else none
  | .bastore => if k = 1 then (match st with
      | .int v :: .int j :: .ref a :: st => if xkd S a = 9 ∧ ¬ (j < 0 ∨ xln S a ≤ j.toNatClampNeg) then xgo (pc + 1) ls st S (xup V a j.toNatClampNeg (vp_nar .boolean v)) else none
      | _ => none) else none
  | .castore => if k = 1 then (match st with
      | .int v :: .int j :: .ref a :: st => if xkd S a = 8 ∧ ¬ (j < 0 ∨ xln S a ≤ j.toNatClampNeg) then xgo (pc + 1) ls st S (xup V a j.toNatClampNeg (vp_nar .char v)) else none
      | _ => none) else none
  | .aastore => if k = 1 then (match st with
      | .ref v :: .int j :: .ref a :: st => if ((xkd S a = 10 ∧ xkd S v = 1) ∨ (xkd S a = 11 ∧ xkd S v = 3)) ∧ ¬ (j < 0 ∨ xln S a ≤ j.toNatClampNeg) then xgo (pc + 1) ls st (xsetr S a j.toNatClampNeg (some v)) V else none
      | _ => none) else none
  | .arraylength => if k = 1 then (match st with
      | .ref a :: st => if (7 ≤ xkd S a ∧ xkd S a ≤ 12) ∨ xkd S a = 14 then xgo (pc + 1) ls (.int (Int32.ofNat (xln S a)) :: st) S V else none
      | _ => none) else none
  | .newarray t => if k = 2 then (match st with
      | .int n :: st => if n < 0 then none else if n.toNatClampNeg ≤ 10000 then (match t with
        | .int => xgo (pc + 2) ls (.ref S.2.1 :: st) (xnew S 7 n.toNatClampNeg n.toNatClampNeg) (xrow V S.2.1 (fun _ => 0))
        | .char => xgo (pc + 2) ls (.ref S.2.1 :: st) (xnew S 8 n.toNatClampNeg n.toNatClampNeg) (xrow V S.2.1 (fun _ => 0))
        | .boolean => xgo (pc + 2) ls (.ref S.2.1 :: st) (xnew S 9 n.toNatClampNeg n.toNatClampNeg) (xrow V S.2.1 (fun _ => 0))
        | _ => none) else none
      | _ => none) else none
  | .anewarray x => if k = 3 then (match st with
      | .int n :: st => if n < 0 then none else if n.toNatClampNeg ≤ 10000 then (match xassoc xKt (xkey m x) with
        | some 0 => xgo (pc + 3) ls (.ref S.2.1 :: st) (xnew S 10 n.toNatClampNeg n.toNatClampNeg) (xrow V S.2.1 (fun _ => 0))
        | some 2 => xgo (pc + 3) ls (.ref S.2.1 :: st) (xnew S 11 n.toNatClampNeg n.toNatClampNeg) (xrow V S.2.1 (fun _ => 0))
        | _ => none) else none
      | _ => none) else none
  | .new x => if k = 3 then (match xassoc xKt (xkey m x) with
      | some ci => xgo (pc + 3) ls (.ref S.2.1 :: st) (xnew S (ci + 1) 0 (xN (ci + 1))) (xrow V S.2.1 (fun _ => 0))
      | none => none) else none
  | .ireturn => if k = 1 then (match st with
      | [.int v] => (match m.2.2.2.1 with
        | some ty => if narrow ty (.int v) = .int v then some (.inr (.inl (some (.int v)))) else none
        | none => none)
      | _ => none) else none
  | .lreturn => if k = 1 then (match st with
      | [.long v] => (match m.2.2.2.1 with
        | some .long => some (.inr (.inl (some (.long v))))
        | _ => none)
      | _ => none) else none
  | .areturn => if k = 1 then (match st with
      | [.ref a] => (match m.2.2.2.1 with
        | some (.object _) => some (.inr (.inl (some (.ref a))))
        | some (.array _) => some (.inr (.inl (some (.ref a))))
        | _ => none)
      | _ => none) else none
  | .return_ => if k = 1 then (match st with
      | [] => (match m.2.2.2.1 with
        | none => some (.inr (.inl none))
        | some _ => none)
      | _ => none) else none
  | .invokevirtual x => if k = 3 then (match xassoc xCt (xkey m x) with
      | some (y, n, 0) => (match st.drop n with
        | .ref b :: rest => if xkd S b = xkdo (xown y) then xcall m y n (.ref b :: (st.take n).reverse) rest st else none
        | _ => none)
      | _ => none) else none
  | .invokestatic x => if k = 3 then (match xassoc xCt (xkey m x) with
      | some (y, n, 1) => xcall m y n (st.take n).reverse (st.drop n) st
      | some (y, n, 3) => xcall m y n (st.take n).reverse (st.drop n) st
      | some _ => none
      | none => match xassoc xMt (xkey m x) with
      | some 0 => (match st with
        | .int w :: .int v :: st => if xcat st ≤ 8 ∧ 0 < xht m then xgo (pc + 3) ls (.int (if v < w then w else v) :: st) S V else none
        | _ => none)
      | some _ => none
      | none => if xkey m x ∈ xAt then (match st with
        | .int n :: .int dp :: .ref a :: .int sp :: .ref a0 :: st => if xkd S a0 = 7 ∧ xkd S a = 7 ∧ (¬ sp < 0 ∧ ¬ dp < 0 ∧ ¬ n < 0) ∧ sp.toNatClampNeg + n.toNatClampNeg ≤ xln S a0 ∧ dp.toNatClampNeg + n.toNatClampNeg ≤ xln S a ∧ xcat st ≤ 8 ∧ 0 < xht m then
            xgo (pc + 3) ls st S (xrow V a (va_cpy (V a0) (V a) sp.toNatClampNeg dp.toNatClampNeg n.toNatClampNeg)) else none
        | _ => none) else none) else none
  | .invokespecial x => if k = 3 then (match xassoc xCt (xkey m x) with
      | some (y, n, 2) => (match st.drop n with
        | .ref b :: rest => xcall m y n (.ref b :: (st.take n).reverse) rest st
        | _ => none)
      | some (y, n, 4) => (match st.drop n with
        | .ref b :: rest => xcall m y n (.ref b :: (st.take n).reverse) rest st
        | _ => none)
      | some _ => none
      | none => if xkey m x ∈ xOt then (match st with
        | .ref b :: st => if xcat st ≤ 8 ∧ 0 < xht m then xgo (pc + 3) ls st S V else none
        | _ => none) else none) else none
  | _ => none
def xstep (E : Nat × Nat × Nat) (m : xM) (pc : Nat) (ls : List (Option Value)) (st : List Value) (S : xSh) (V : xV) : Option xStep := match decode m.2.1 pc with
  | .ok (i, k) => xdo E m i k pc ls st S V
  | .error _ => none
def xrun (E : Nat × Nat × Nat) : Nat → xM → Nat → List (Option Value) → List Value → xSh → xV → Option (Option Value × xSh × xV)
  | 0, _, _, _, _, _, _ => none
  | n + 1, m, pc, ls, st, S, V => match xstep E m pc ls st S V with
    | none => none
    | some (.inl q) => xrun E n m q.1 q.2.1 q.2.2.1 q.2.2.2.1 q.2.2.2.2
    | some (.inr (.inl v)) => some (v, S, V)
    | some (.inr (.inr q)) => match xrun E n q.1 0 (xlocs q.1.2.2.1 q.2.1) [] S V with
      | none => none
      | some r => xrun E n m (pc + 3) ls (r.1.toList ++ q.2.2) r.2.1 r.2.2
theorem xrun_mono (E : Nat × Nat × Nat) : ∀ (n : Nat) {m : xM} {pc : Nat} {ls : List (Option Value)} {st : List Value} {S : xSh} {V : xV} {r : Option Value × xSh × xV}, xrun E n m pc ls st S V = some r → xrun E (n + 1) m pc ls st S V = some r := by
  intro n
  induction n with
  | zero => intro m pc ls st S V r h; cases h
  | succ n ih =>
    intro m pc ls st S V r h
    rw [xrun] at h ⊢
    cases hs : xstep E m pc ls st S V with
    | none => rw [hs] at h; cases h
    | some q =>
      rw [hs] at h
      obtain q | v | q := q
      · exact ih h
      · exact h
      · dsimp only at h ⊢
        cases hc : xrun E n q.1 0 (xlocs q.1.2.2.1 q.2.1) [] S V with
        | none => rw [hc] at h; cases h
        | some r1 =>
          rw [hc] at h
          rw [ih hc]
          exact ih h
theorem xrun_le (E : Nat × Nat × Nat) {n n' : Nat} (hn : n ≤ n') {m : xM} {pc : Nat} {ls : List (Option Value)} {st : List Value} {S : xSh} {V : xV} {r : Option Value × xSh × xV} (h : xrun E n m pc ls st S V = some r) : xrun E n' m pc ls st S V = some r := by
  induction hn with
  | refl => exact h
  | step _ ih => exact xrun_mono E _ ih
/-- from here the method comes to a return with Q -/
def xX (E : Nat × Nat × Nat) (m : xM) (pc : Nat) (ls : List (Option Value)) (st : List Value) (S : xSh) (V : xV) (Q : Option Value → xSh → xV → Prop) : Prop :=
  ∃ (n : Nat) (r : Option Value × xSh × xV), xrun E n m pc ls st S V = some r ∧ Q r.1 r.2.1 r.2.2
/-- a call of a method -/
def xC (E : Nat × Nat × Nat) (m : xM) (as : List Value) (S : xSh) (V : xV) (Q : Option Value → xSh → xV → Prop) : Prop := xX E m 0 (xlocs m.2.2.1 as) [] S V Q
theorem xX_next {E : Nat × Nat × Nat} {m : xM} {pc pc' : Nat} {ls ls' : List (Option Value)} {st st' : List Value} {S S' : xSh} {V V' : xV} {Q : Option Value → xSh → xV → Prop} (h : xstep E m pc ls st S V = some (.inl (pc', ls', st', S', V'))) :
    xX E m pc ls st S V Q ↔ xX E m pc' ls' st' S' V' Q := by
  constructor
  · rintro ⟨n, r, h1, h2⟩
    cases n with
    | zero => cases h1
    | succ n =>
      rw [xrun, h] at h1
      exact ⟨n, r, h1, h2⟩
  · rintro ⟨n, r, h1, h2⟩
    exact ⟨n + 1, r, by rw [xrun, h]; exact h1, h2⟩
theorem xX_ret {E : Nat × Nat × Nat} {m : xM} {pc : Nat} {ls : List (Option Value)} {st : List Value} {S : xSh} {V : xV} {Q : Option Value → xSh → xV → Prop} {v : Option Value} (h : xstep E m pc ls st S V = some (.inr (.inl v))) :
    xX E m pc ls st S V Q ↔ Q v S V := by
  constructor
  · rintro ⟨n, r, h1, h2⟩
    cases n with
    | zero => cases h1
    | succ n =>
      rw [xrun, h] at h1
      cases h1
      exact h2
  · intro h2
    exact ⟨1, (v, S, V), by rw [xrun, h], h2⟩
theorem xX_call {E : Nat × Nat × Nat} {m : xM} {pc : Nat} {ls : List (Option Value)} {st : List Value} {S : xSh} {V : xV} {Q : Option Value → xSh → xV → Prop} {y : xM} {as rest : List Value} (h : xstep E m pc ls st S V = some (.inr (.inr (y, as, rest)))) :
    xX E m pc ls st S V Q ↔ xC E y as S V (fun v S' V' => xX E m (pc + 3) ls (v.toList ++ rest) S' V' Q) := by
  constructor
  · rintro ⟨n, r, h1, h2⟩
    cases n with
    | zero => cases h1
    | succ n =>
      rw [xrun, h] at h1
      dsimp only at h1
      cases hc : xrun E n y 0 (xlocs y.2.2.1 as) [] S V with
      | none => rw [hc] at h1; cases h1
      | some r1 =>
        rw [hc] at h1
        exact ⟨n, r1, hc, n, r, h1, h2⟩
  · rintro ⟨n1, r1, hc, n2, r, h1, h2⟩
    refine ⟨max n1 n2 + 1, r, ?_, h2⟩
    rw [xrun, h]
    dsimp only
    rw [xrun_le E (Nat.le_max_left n1 n2) hc]
    exact xrun_le E (Nat.le_max_right n1 n2) h1
theorem xX_mono {E : Nat × Nat × Nat} {m : xM} {pc : Nat} {ls : List (Option Value)} {st : List Value} {S : xSh} {V : xV} {Q Q' : Option Value → xSh → xV → Prop} (h : xX E m pc ls st S V Q) (hq : ∀ v S' V', Q v S' V' → Q' v S' V') : xX E m pc ls st S V Q' := by
  obtain ⟨n, r, h1, h2⟩ := h
  exact ⟨n, r, h1, hq _ _ _ h2⟩
end
section
/-! ===== the printed words behind the tables, by program ===== -/
def xws0 : List Cond := lw_tbl.filter goodWord
theorem xws0_of {i : Nat} {w : Cond} (h : lw_tbl[i]? = some w) (hg : goodWord w = true) : w ∈ xws0 := List.mem_filter.mpr ⟨List.mem_of_getElem? h, hg⟩
theorem xws0_good : GoodIn xws0 xws0 := fun w hw => ⟨hw, good_of_word (List.mem_filter.mp hw).2⟩
def xwsOf (y : xM) : List Cond := Cond.code y.1 y.2.1 y.2.2.1 y.2.2.2.1 :: xws0
/-- links of nest mates, which are no words of a method's list -/
def xNw : List Cond := [.methodLinkNest (xcn 2) 24 yX0_init "TurnSlots", .methodLinkNest (xcn 4) 36 yX3_init "TurnSlots", .methodLinkNest (xcn 2) 67 yX4_has "TurnSlots", .methodLinkNest (xcn 0) 65 yX4_has "TurnSlots"]
theorem xNw_tbl : ∀ w ∈ xNw, w ∈ lw_tbl := List.forall_mem_cons.mpr ⟨List.mem_of_getElem? (i := 32) (by decide +kernel), List.forall_mem_cons.mpr ⟨List.mem_of_getElem? (i := 137) (by decide +kernel), List.forall_mem_cons.mpr ⟨List.mem_of_getElem? (i := 215) (by decide +kernel), List.forall_mem_cons.mpr ⟨List.mem_of_getElem? (i := 266) (by decide +kernel), fun _ h => absurd h List.not_mem_nil⟩⟩⟩⟩
theorem xNw_kind : ∀ w ∈ xNw, (∃ a i x h, w = .methodLinkNest a i x h) ∨ (∃ a i b n d h, w = .fieldLinkNest a i b n d h) := List.forall_mem_cons.mpr ⟨Or.inl ⟨_, _, _, _, rfl⟩, List.forall_mem_cons.mpr ⟨Or.inl ⟨_, _, _, _, rfl⟩, List.forall_mem_cons.mpr ⟨Or.inl ⟨_, _, _, _, rfl⟩, List.forall_mem_cons.mpr ⟨Or.inl ⟨_, _, _, _, rfl⟩, fun _ h => absurd h List.not_mem_nil⟩⟩⟩⟩
def xFok (e : (Nat × Nat) × (Nat × Nat)) : Prop := ((1 ≤ e.2.1 ∧ e.2.1 ≤ 5)) ∧ e.2.2 < xN e.2.1 ∧ Cond.fieldLink (xcn e.1.1) e.1.2 (xT e.2.1 e.2.2).1 (xT e.2.1 e.2.2).2.1 (xT e.2.1 e.2.2).2.2.1 ∈ xws0
theorem xFt_ok_0 : xFok (((0, 9), (1, 0))) := ⟨by decide, by decide, xws0_of (i := 36) (by decide +kernel) rfl⟩
theorem xFt_ok_1 : xFok (((0, 15), (1, 1))) := ⟨by decide, by decide, xws0_of (i := 39) (by decide +kernel) rfl⟩
theorem xFt_ok_2 : xFok (((0, 18), (1, 2))) := ⟨by decide, by decide, xws0_of (i := 42) (by decide +kernel) rfl⟩
theorem xFt_ok_3 : xFok (((0, 21), (1, 3))) := ⟨by decide, by decide, xws0_of (i := 44) (by decide +kernel) rfl⟩
theorem xFt_ok_4 : xFok (((0, 30), (1, 4))) := ⟨by decide, by decide, xws0_of (i := 48) (by decide +kernel) rfl⟩
theorem xFt_ok_5 : xFok (((0, 34), (1, 5))) := ⟨by decide, by decide, xws0_of (i := 50) (by decide +kernel) rfl⟩
theorem xFt_ok_6 : xFok (((0, 37), (1, 6))) := ⟨by decide, by decide, xws0_of (i := 52) (by decide +kernel) rfl⟩
theorem xFt_ok_7 : xFok (((0, 40), (1, 7))) := ⟨by decide, by decide, xws0_of (i := 55) (by decide +kernel) rfl⟩
theorem xFt_ok_8 : xFok (((0, 43), (1, 8))) := ⟨by decide, by decide, xws0_of (i := 58) (by decide +kernel) rfl⟩
theorem xFt_ok_9 : xFok (((0, 46), (1, 9))) := ⟨by decide, by decide, xws0_of (i := 61) (by decide +kernel) rfl⟩
theorem xFt_ok_10 : xFok (((0, 49), (1, 10))) := ⟨by decide, by decide, xws0_of (i := 64) (by decide +kernel) rfl⟩
theorem xFt_ok_11 : xFok (((1, 11), (2, 0))) := ⟨by decide, by decide, xws0_of (i := 124) (by decide +kernel) rfl⟩
theorem xFt_ok_12 : xFok (((1, 18), (2, 1))) := ⟨by decide, by decide, xws0_of (i := 125) (by decide +kernel) rfl⟩
theorem xFt_ok_13 : xFok (((1, 22), (2, 2))) := ⟨by decide, by decide, xws0_of (i := 126) (by decide +kernel) rfl⟩
theorem xFt_ok_14 : xFok (((2, 11), (3, 0))) := ⟨by decide, by decide, xws0_of (i := 91) (by decide +kernel) rfl⟩
theorem xFt_ok_15 : xFok (((2, 17), (3, 1))) := ⟨by decide, by decide, xws0_of (i := 93) (by decide +kernel) rfl⟩
theorem xFt_ok_16 : xFok (((2, 21), (3, 2))) := ⟨by decide, by decide, xws0_of (i := 95) (by decide +kernel) rfl⟩
theorem xFt_ok_17 : xFok (((2, 35), (3, 3))) := ⟨by decide, by decide, xws0_of (i := 96) (by decide +kernel) rfl⟩
theorem xFt_ok_18 : xFok (((2, 39), (3, 4))) := ⟨by decide, by decide, xws0_of (i := 98) (by decide +kernel) rfl⟩
theorem xFt_ok_19 : xFok (((2, 42), (3, 5))) := ⟨by decide, by decide, xws0_of (i := 100) (by decide +kernel) rfl⟩
theorem xFt_ok_20 : xFok (((2, 45), (1, 6))) := ⟨by decide, by decide, xws0_of (i := 53) (by decide +kernel) rfl⟩
theorem xFt_ok_21 : xFok (((2, 48), (1, 4))) := ⟨by decide, by decide, xws0_of (i := 49) (by decide +kernel) rfl⟩
theorem xFt_ok_22 : xFok (((2, 51), (1, 10))) := ⟨by decide, by decide, xws0_of (i := 65) (by decide +kernel) rfl⟩
theorem xFt_ok_23 : xFok (((2, 54), (1, 1))) := ⟨by decide, by decide, xws0_of (i := 40) (by decide +kernel) rfl⟩
theorem xFt_ok_24 : xFok (((2, 57), (1, 0))) := ⟨by decide, by decide, xws0_of (i := 37) (by decide +kernel) rfl⟩
theorem xFt_ok_25 : xFok (((2, 60), (1, 9))) := ⟨by decide, by decide, xws0_of (i := 62) (by decide +kernel) rfl⟩
theorem xFt_ok_26 : xFok (((2, 77), (1, 8))) := ⟨by decide, by decide, xws0_of (i := 60) (by decide +kernel) rfl⟩
theorem xFt_ok_27 : xFok (((2, 120), (1, 3))) := ⟨by decide, by decide, xws0_of (i := 46) (by decide +kernel) rfl⟩
theorem xFt_ok_28 : xFok (((2, 129), (1, 7))) := ⟨by decide, by decide, xws0_of (i := 57) (by decide +kernel) rfl⟩
theorem xFt_ok_29 : xFok (((3, 9), (4, 0))) := ⟨by decide, by decide, xws0_of (i := 141) (by decide +kernel) rfl⟩
theorem xFt_ok_30 : xFok (((3, 15), (4, 2))) := ⟨by decide, by decide, xws0_of (i := 143) (by decide +kernel) rfl⟩
theorem xFt_ok_31 : xFok (((3, 19), (4, 3))) := ⟨by decide, by decide, xws0_of (i := 144) (by decide +kernel) rfl⟩
theorem xFt_ok_32 : xFok (((4, 10), (5, 0))) := ⟨by decide, by decide, xws0_of (i := 162) (by decide +kernel) rfl⟩
theorem xFt_ok_33 : xFok (((4, 16), (5, 1))) := ⟨by decide, by decide, xws0_of (i := 163) (by decide +kernel) rfl⟩
theorem xFt_ok_34 : xFok (((4, 22), (5, 2))) := ⟨by decide, by decide, xws0_of (i := 164) (by decide +kernel) rfl⟩
theorem xFt_ok_35 : xFok (((4, 26), (5, 3))) := ⟨by decide, by decide, xws0_of (i := 165) (by decide +kernel) rfl⟩
theorem xFt_ok_36 : xFok (((4, 30), (5, 4))) := ⟨by decide, by decide, xws0_of (i := 166) (by decide +kernel) rfl⟩
theorem xFt_ok_37 : xFok (((4, 37), (5, 5))) := ⟨by decide, by decide, xws0_of (i := 167) (by decide +kernel) rfl⟩
theorem xFt_ok_38 : xFok (((4, 49), (3, 0))) := ⟨by decide, by decide, xws0_of (i := 92) (by decide +kernel) rfl⟩
theorem xFt_ok_39 : xFok (((4, 53), (1, 4))) := ⟨by decide, by decide, xws0_of (i := 47) (by decide +kernel) rfl⟩
theorem xFt_ok_40 : xFok (((4, 78), (4, 1))) := ⟨by decide, by decide, xws0_of (i := 142) (by decide +kernel) rfl⟩
theorem xFt_ok_41 : xFok (((4, 84), (1, 8))) := ⟨by decide, by decide, xws0_of (i := 59) (by decide +kernel) rfl⟩
theorem xFt_ok_42 : xFok (((4, 87), (1, 9))) := ⟨by decide, by decide, xws0_of (i := 63) (by decide +kernel) rfl⟩
theorem xFt_ok_43 : xFok (((4, 97), (3, 1))) := ⟨by decide, by decide, xws0_of (i := 94) (by decide +kernel) rfl⟩
theorem xFt_ok_44 : xFok (((4, 104), (3, 3))) := ⟨by decide, by decide, xws0_of (i := 97) (by decide +kernel) rfl⟩
theorem xFt_ok_45 : xFok (((4, 116), (1, 6))) := ⟨by decide, by decide, xws0_of (i := 54) (by decide +kernel) rfl⟩
theorem xFt_ok_46 : xFok (((4, 119), (1, 7))) := ⟨by decide, by decide, xws0_of (i := 56) (by decide +kernel) rfl⟩
theorem xFt_ok_47 : xFok (((4, 130), (1, 10))) := ⟨by decide, by decide, xws0_of (i := 66) (by decide +kernel) rfl⟩
theorem xFt_ok_48 : xFok (((4, 145), (1, 3))) := ⟨by decide, by decide, xws0_of (i := 45) (by decide +kernel) rfl⟩
theorem xFt_ok_49 : xFok (((4, 148), (1, 0))) := ⟨by decide, by decide, xws0_of (i := 38) (by decide +kernel) rfl⟩
theorem xFt_ok_50 : xFok (((4, 151), (1, 1))) := ⟨by decide, by decide, xws0_of (i := 41) (by decide +kernel) rfl⟩
theorem xFt_ok_51 : xFok (((4, 154), (1, 5))) := ⟨by decide, by decide, xws0_of (i := 51) (by decide +kernel) rfl⟩
theorem xFt_ok_52 : xFok (((4, 157), (1, 2))) := ⟨by decide, by decide, xws0_of (i := 43) (by decide +kernel) rfl⟩
theorem xFt_ok_53 : xFok (((4, 172), (3, 4))) := ⟨by decide, by decide, xws0_of (i := 99) (by decide +kernel) rfl⟩
theorem xFt_ok_54 : xFok (((4, 175), (3, 5))) := ⟨by decide, by decide, xws0_of (i := 101) (by decide +kernel) rfl⟩
theorem xFt_ok_55 : xFok (((4, 185), (2, 2))) := ⟨by decide, by decide, xws0_of (i := 127) (by decide +kernel) rfl⟩
set_option maxRecDepth 4000 in
theorem xFt_ok : ∀ e ∈ xFt, xFok e := List.forall_mem_cons.mpr ⟨xFt_ok_0, List.forall_mem_cons.mpr ⟨xFt_ok_1, List.forall_mem_cons.mpr ⟨xFt_ok_2, List.forall_mem_cons.mpr ⟨xFt_ok_3, List.forall_mem_cons.mpr ⟨xFt_ok_4, List.forall_mem_cons.mpr ⟨xFt_ok_5, List.forall_mem_cons.mpr ⟨xFt_ok_6, List.forall_mem_cons.mpr ⟨xFt_ok_7, List.forall_mem_cons.mpr ⟨xFt_ok_8, List.forall_mem_cons.mpr ⟨xFt_ok_9, List.forall_mem_cons.mpr ⟨xFt_ok_10, List.forall_mem_cons.mpr ⟨xFt_ok_11, List.forall_mem_cons.mpr ⟨xFt_ok_12, List.forall_mem_cons.mpr ⟨xFt_ok_13, List.forall_mem_cons.mpr ⟨xFt_ok_14, List.forall_mem_cons.mpr ⟨xFt_ok_15, List.forall_mem_cons.mpr ⟨xFt_ok_16, List.forall_mem_cons.mpr ⟨xFt_ok_17, List.forall_mem_cons.mpr ⟨xFt_ok_18, List.forall_mem_cons.mpr ⟨xFt_ok_19, List.forall_mem_cons.mpr ⟨xFt_ok_20, List.forall_mem_cons.mpr ⟨xFt_ok_21, List.forall_mem_cons.mpr ⟨xFt_ok_22, List.forall_mem_cons.mpr ⟨xFt_ok_23, List.forall_mem_cons.mpr ⟨xFt_ok_24, List.forall_mem_cons.mpr ⟨xFt_ok_25, List.forall_mem_cons.mpr ⟨xFt_ok_26, List.forall_mem_cons.mpr ⟨xFt_ok_27, List.forall_mem_cons.mpr ⟨xFt_ok_28, List.forall_mem_cons.mpr ⟨xFt_ok_29, List.forall_mem_cons.mpr ⟨xFt_ok_30, List.forall_mem_cons.mpr ⟨xFt_ok_31, List.forall_mem_cons.mpr ⟨xFt_ok_32, List.forall_mem_cons.mpr ⟨xFt_ok_33, List.forall_mem_cons.mpr ⟨xFt_ok_34, List.forall_mem_cons.mpr ⟨xFt_ok_35, List.forall_mem_cons.mpr ⟨xFt_ok_36, List.forall_mem_cons.mpr ⟨xFt_ok_37, List.forall_mem_cons.mpr ⟨xFt_ok_38, List.forall_mem_cons.mpr ⟨xFt_ok_39, List.forall_mem_cons.mpr ⟨xFt_ok_40, List.forall_mem_cons.mpr ⟨xFt_ok_41, List.forall_mem_cons.mpr ⟨xFt_ok_42, List.forall_mem_cons.mpr ⟨xFt_ok_43, List.forall_mem_cons.mpr ⟨xFt_ok_44, List.forall_mem_cons.mpr ⟨xFt_ok_45, List.forall_mem_cons.mpr ⟨xFt_ok_46, List.forall_mem_cons.mpr ⟨xFt_ok_47, List.forall_mem_cons.mpr ⟨xFt_ok_48, List.forall_mem_cons.mpr ⟨xFt_ok_49, List.forall_mem_cons.mpr ⟨xFt_ok_50, List.forall_mem_cons.mpr ⟨xFt_ok_51, List.forall_mem_cons.mpr ⟨xFt_ok_52, List.forall_mem_cons.mpr ⟨xFt_ok_53, List.forall_mem_cons.mpr ⟨xFt_ok_54, List.forall_mem_cons.mpr ⟨xFt_ok_55, fun _ h => absurd h List.not_mem_nil⟩⟩⟩⟩⟩⟩⟩⟩⟩⟩⟩⟩⟩⟩⟩⟩⟩⟩⟩⟩⟩⟩⟩⟩⟩⟩⟩⟩⟩⟩⟩⟩⟩⟩⟩⟩⟩⟩⟩⟩⟩⟩⟩⟩⟩⟩⟩⟩⟩⟩⟩⟩⟩⟩⟩⟩
def xSok (e : (Nat × Nat) × Nat) : Prop := (e.2 = 0 → Cond.fieldLink (xcn e.1.1) e.1.2 "TurnSlots" "LEAST_N" "[I" ∈ xws0 ∨ Cond.fieldLinkNest (xcn e.1.1) e.1.2 "TurnSlots" "LEAST_N" "[I" "TurnSlots" ∈ xNw) ∧ (e.2 = 1 → Cond.fieldLink (xcn e.1.1) e.1.2 "TurnSlots" "GREATEST_N" "[I" ∈ xws0 ∨ Cond.fieldLinkNest (xcn e.1.1) e.1.2 "TurnSlots" "GREATEST_N" "[I" "TurnSlots" ∈ xNw) ∧ (e.2 = 2 → Cond.fieldLink (xcn e.1.1) e.1.2 "java/lang/String" "COMPACT_STRINGS" "Z" ∈ xws0)
theorem xSt_ok_0 : xSok (((4, 207), 0)) := ⟨fun _ => Or.inl (xws0_of (i := 406) (by decide +kernel) rfl), fun h => absurd h (by decide), fun h => absurd h (by decide)⟩
theorem xSt_ok_1 : xSok (((4, 210), 1)) := ⟨fun h => absurd h (by decide), fun _ => Or.inl (xws0_of (i := 408) (by decide +kernel) rfl), fun h => absurd h (by decide)⟩
set_option maxRecDepth 4000 in
theorem xSt_ok : ∀ e ∈ xSt, xSok e := List.forall_mem_cons.mpr ⟨xSt_ok_0, List.forall_mem_cons.mpr ⟨xSt_ok_1, fun _ h => absurd h List.not_mem_nil⟩⟩
def xIok (e : (Nat × Nat) × Int32) : Prop := Cond.constant (xcn e.1.1) e.1.2 e.2 ∈ xws0
theorem xIt_ok_0 : xIok (((4, 107), 100000)) := xws0_of (i := 394) (by decide +kernel) rfl
theorem xIt_ok_1 : xIok (((4, 112), 99000)) := xws0_of (i := 386) (by decide +kernel) rfl
theorem xIt_ok_2 : xIok (((6, 7), 2147483647)) := xws0_of (i := 365) (by decide +kernel) rfl
theorem xIt_ok_3 : xIok (((10, 265), 1431655765)) := xws0_of (i := 196) (by decide +kernel) rfl
theorem xIt_ok_4 : xIok (((10, 266), 858993459)) := xws0_of (i := 197) (by decide +kernel) rfl
theorem xIt_ok_5 : xIok (((10, 267), 252645135)) := xws0_of (i := 198) (by decide +kernel) rfl
set_option maxRecDepth 4000 in
theorem xIt_ok : ∀ e ∈ xIt, xIok e := List.forall_mem_cons.mpr ⟨xIt_ok_0, List.forall_mem_cons.mpr ⟨xIt_ok_1, List.forall_mem_cons.mpr ⟨xIt_ok_2, List.forall_mem_cons.mpr ⟨xIt_ok_3, List.forall_mem_cons.mpr ⟨xIt_ok_4, List.forall_mem_cons.mpr ⟨xIt_ok_5, fun _ h => absurd h List.not_mem_nil⟩⟩⟩⟩⟩⟩
def xJok (e : (Nat × Nat) × Int64) : Prop := Cond.constantLong (xcn e.1.1) e.1.2 e.2 ∈ xws0
theorem xJt_ok_0 : xJok (((6, 8), 3)) := xws0_of (i := 330) (by decide +kernel) rfl
theorem xJt_ok_1 : xJok (((6, 10), 31)) := xws0_of (i := 331) (by decide +kernel) rfl
set_option maxRecDepth 4000 in
theorem xJt_ok : ∀ e ∈ xJt, xJok e := List.forall_mem_cons.mpr ⟨xJt_ok_0, List.forall_mem_cons.mpr ⟨xJt_ok_1, fun _ h => absurd h List.not_mem_nil⟩⟩
def xKok (e : (Nat × Nat) × Nat) : Prop := e.2 ≤ 4 ∧ Cond.classLink (xcn e.1.1) e.1.2 (xcn e.2) ∈ xws0
theorem xKt_ok_0 : xKok (((1, 9), 2)) := ⟨by decide, xws0_of (i := 121) (by decide +kernel) rfl⟩
theorem xKt_ok_1 : xKok (((2, 9), 0)) := ⟨by decide, xws0_of (i := 29) (by decide +kernel) rfl⟩
theorem xKt_ok_2 : xKok (((4, 7), 2)) := ⟨by decide, xws0_of (i := 23) (by decide +kernel) rfl⟩
theorem xKt_ok_3 : xKok (((4, 19), 1)) := ⟨by decide, xws0_of (i := 115) (by decide +kernel) rfl⟩
theorem xKt_ok_4 : xKok (((4, 34), 3)) := ⟨by decide, xws0_of (i := 135) (by decide +kernel) rfl⟩
theorem xKt_ok_5 : xKok (((6, 13), 4)) := ⟨by decide, xws0_of (i := 15) (by decide +kernel) rfl⟩
set_option maxRecDepth 4000 in
theorem xKt_ok : ∀ e ∈ xKt, xKok e := List.forall_mem_cons.mpr ⟨xKt_ok_0, List.forall_mem_cons.mpr ⟨xKt_ok_1, List.forall_mem_cons.mpr ⟨xKt_ok_2, List.forall_mem_cons.mpr ⟨xKt_ok_3, List.forall_mem_cons.mpr ⟨xKt_ok_4, List.forall_mem_cons.mpr ⟨xKt_ok_5, fun _ h => absurd h List.not_mem_nil⟩⟩⟩⟩⟩⟩
def xAok (e : Nat × Nat) : Prop := Cond.methodLink (xcn e.1) e.2 arraycopyName ∈ xws0
theorem xAt_ok_0 : xAok ((0, 24)) := xws0_of (i := 234) (by decide +kernel) rfl
theorem xAt_ok_1 : xAok ((2, 29)) := xws0_of (i := 237) (by decide +kernel) rfl
set_option maxRecDepth 4000 in
theorem xAt_ok : ∀ e ∈ xAt, xAok e := List.forall_mem_cons.mpr ⟨xAt_ok_0, List.forall_mem_cons.mpr ⟨xAt_ok_1, fun _ h => absurd h List.not_mem_nil⟩⟩
def xOok (e : Nat × Nat) : Prop := Cond.methodLink (xcn e.1) e.2 objectInit ∈ xws0
theorem xOt_ok_0 : xOok ((4, 1)) := xws0_of (i := 20) (by decide +kernel) rfl
theorem xOt_ok_1 : xOok ((2, 3)) := xws0_of (i := 28) (by decide +kernel) rfl
theorem xOt_ok_2 : xOok ((0, 3)) := xws0_of (i := 35) (by decide +kernel) rfl
theorem xOt_ok_3 : xOok ((1, 3)) := xws0_of (i := 120) (by decide +kernel) rfl
theorem xOt_ok_4 : xOok ((3, 3)) := xws0_of (i := 140) (by decide +kernel) rfl
set_option maxRecDepth 4000 in
theorem xOt_ok : ∀ e ∈ xOt, xOok e := List.forall_mem_cons.mpr ⟨xOt_ok_0, List.forall_mem_cons.mpr ⟨xOt_ok_1, List.forall_mem_cons.mpr ⟨xOt_ok_2, List.forall_mem_cons.mpr ⟨xOt_ok_3, List.forall_mem_cons.mpr ⟨xOt_ok_4, fun _ h => absurd h List.not_mem_nil⟩⟩⟩⟩⟩
def xXok (e : (Nat × Nat) × Nat) : Prop := (e.2 = 0 → Cond.methodLink (xcn e.1.1) e.1.2 Lib.Math.max.name ∈ xws0) ∧ (e.2 = 1 → Cond.methodLink (xcn e.1.1) e.1.2 Lib.Math.min.name ∈ xws0)
theorem xMt_ok_0 : xXok (((0, 69), 0)) := ⟨fun _ => xws0_of (i := 267) (by decide +kernel) rfl, fun h => absurd h (by decide)⟩
theorem xMt_ok_1 : xXok (((2, 80), 0)) := ⟨fun _ => xws0_of (i := 242) (by decide +kernel) rfl, fun h => absurd h (by decide)⟩
set_option maxRecDepth 4000 in
theorem xMt_ok : ∀ e ∈ xMt, xXok e := List.forall_mem_cons.mpr ⟨xMt_ok_0, List.forall_mem_cons.mpr ⟨xMt_ok_1, fun _ h => absurd h List.not_mem_nil⟩⟩
theorem xw_max_s : Cond.static Lib.Math.max.name ∈ xws0 := xws0_of (i := 243) (by decide +kernel) rfl
theorem xw_max_c : Cond.code Lib.Math.max.name Lib.Math.max.code 2 (some .int) ∈ xws0 := xws0_of (i := 244) (by decide +kernel) rfl
theorem xw_math : Cond.initialized "java/lang/Math" ∈ xws0 := xws0_of (i := 14) (by decide +kernel) rfl
theorem xw_acNative : Cond.native arraycopyName ∈ xws0 := xws0_of (i := 236) (by decide +kernel) rfl
theorem xw_acStatic : Cond.static arraycopyName ∈ xws0 := xws0_of (i := 235) (by decide +kernel) rfl
theorem xw_acInit : Cond.initialized "java/lang/System" ∈ xws0 := xws0_of (i := 13) (by decide +kernel) rfl
theorem xw_oiInst : Cond.instanceMethod objectInit ∈ xws0 := xws0_of (i := 21) (by decide +kernel) rfl
theorem xw_oiCode : Cond.code objectInit ⟨#[0xb1]⟩ 1 none ∈ xws0 := xws0_of (i := 22) (by decide +kernel) rfl
theorem xw_arr_int : Cond.arrayClass .int ∈ xws0 := xws0_of (i := 90) (by decide +kernel) rfl
theorem xw_arr_boolean : Cond.arrayClass .boolean ∈ xws0 := xws0_of (i := 160) (by decide +kernel) rfl
theorem xw_arr_char : Cond.arrayClass .char ∈ xws0 := xws0_of (i := 161) (by decide +kernel) rfl
theorem xw_inst_0 : Cond.instantiable (xcn 0) (xN 1) ∈ xws0 := xws0_of (i := 31) (by decide +kernel) rfl
theorem xw_ini_0 : Cond.initialized (xcn 0) ∈ xws0 := xws0_of (i := 9) (by decide +kernel) rfl
theorem xw_lay_0 : ∀ w ∈ u_ws (xcn 0) (xT 1) (xN 1), w ∈ xws0 := by
  show ∀ w ∈ [u_lay (xcn 0) (xT 1) 0, u_lay (xcn 0) (xT 1) 1, u_lay (xcn 0) (xT 1) 2, u_lay (xcn 0) (xT 1) 3, u_lay (xcn 0) (xT 1) 4, u_lay (xcn 0) (xT 1) 5, u_lay (xcn 0) (xT 1) 6, u_lay (xcn 0) (xT 1) 7, u_lay (xcn 0) (xT 1) 8, u_lay (xcn 0) (xT 1) 9, u_lay (xcn 0) (xT 1) 10], w ∈ xws0
  exact List.forall_mem_cons.mpr ⟨xws0_of (i := 67) (by decide +kernel) rfl, List.forall_mem_cons.mpr ⟨xws0_of (i := 69) (by decide +kernel) rfl, List.forall_mem_cons.mpr ⟨xws0_of (i := 71) (by decide +kernel) rfl, List.forall_mem_cons.mpr ⟨xws0_of (i := 73) (by decide +kernel) rfl, List.forall_mem_cons.mpr ⟨xws0_of (i := 75) (by decide +kernel) rfl, List.forall_mem_cons.mpr ⟨xws0_of (i := 77) (by decide +kernel) rfl, List.forall_mem_cons.mpr ⟨xws0_of (i := 79) (by decide +kernel) rfl, List.forall_mem_cons.mpr ⟨xws0_of (i := 81) (by decide +kernel) rfl, List.forall_mem_cons.mpr ⟨xws0_of (i := 83) (by decide +kernel) rfl, List.forall_mem_cons.mpr ⟨xws0_of (i := 85) (by decide +kernel) rfl, List.forall_mem_cons.mpr ⟨xws0_of (i := 87) (by decide +kernel) rfl, fun _ h => absurd h List.not_mem_nil⟩⟩⟩⟩⟩⟩⟩⟩⟩⟩⟩
theorem xw_inst_1 : Cond.instantiable (xcn 1) (xN 2) ∈ xws0 := xws0_of (i := 116) (by decide +kernel) rfl
theorem xw_ini_1 : Cond.initialized (xcn 1) ∈ xws0 := xws0_of (i := 10) (by decide +kernel) rfl
theorem xw_lay_1 : ∀ w ∈ u_ws (xcn 1) (xT 2) (xN 2), w ∈ xws0 := by
  show ∀ w ∈ [u_lay (xcn 1) (xT 2) 0, u_lay (xcn 1) (xT 2) 1, u_lay (xcn 1) (xT 2) 2], w ∈ xws0
  exact List.forall_mem_cons.mpr ⟨xws0_of (i := 128) (by decide +kernel) rfl, List.forall_mem_cons.mpr ⟨xws0_of (i := 130) (by decide +kernel) rfl, List.forall_mem_cons.mpr ⟨xws0_of (i := 132) (by decide +kernel) rfl, fun _ h => absurd h List.not_mem_nil⟩⟩⟩
theorem xw_inst_2 : Cond.instantiable (xcn 2) (xN 3) ∈ xws0 := xws0_of (i := 24) (by decide +kernel) rfl
theorem xw_ini_2 : Cond.initialized (xcn 2) ∈ xws0 := xws0_of (i := 8) (by decide +kernel) rfl
theorem xw_lay_2 : ∀ w ∈ u_ws (xcn 2) (xT 3) (xN 3), w ∈ xws0 := by
  show ∀ w ∈ [u_lay (xcn 2) (xT 3) 0, u_lay (xcn 2) (xT 3) 1, u_lay (xcn 2) (xT 3) 2, u_lay (xcn 2) (xT 3) 3, u_lay (xcn 2) (xT 3) 4, u_lay (xcn 2) (xT 3) 5], w ∈ xws0
  exact List.forall_mem_cons.mpr ⟨xws0_of (i := 102) (by decide +kernel) rfl, List.forall_mem_cons.mpr ⟨xws0_of (i := 104) (by decide +kernel) rfl, List.forall_mem_cons.mpr ⟨xws0_of (i := 106) (by decide +kernel) rfl, List.forall_mem_cons.mpr ⟨xws0_of (i := 108) (by decide +kernel) rfl, List.forall_mem_cons.mpr ⟨xws0_of (i := 110) (by decide +kernel) rfl, List.forall_mem_cons.mpr ⟨xws0_of (i := 112) (by decide +kernel) rfl, fun _ h => absurd h List.not_mem_nil⟩⟩⟩⟩⟩⟩
theorem xw_inst_3 : Cond.instantiable (xcn 3) (xN 4) ∈ xws0 := xws0_of (i := 136) (by decide +kernel) rfl
theorem xw_ini_3 : Cond.initialized (xcn 3) ∈ xws0 := xws0_of (i := 11) (by decide +kernel) rfl
theorem xw_lay_3 : ∀ w ∈ u_ws (xcn 3) (xT 4) (xN 4), w ∈ xws0 := by
  show ∀ w ∈ [u_lay (xcn 3) (xT 4) 0, u_lay (xcn 3) (xT 4) 1, u_lay (xcn 3) (xT 4) 2, u_lay (xcn 3) (xT 4) 3, u_lay (xcn 3) (xT 4) 4, u_lay (xcn 3) (xT 4) 5, u_lay (xcn 3) (xT 4) 6], w ∈ xws0
  exact List.forall_mem_cons.mpr ⟨xws0_of (i := 145) (by decide +kernel) rfl, List.forall_mem_cons.mpr ⟨xws0_of (i := 147) (by decide +kernel) rfl, List.forall_mem_cons.mpr ⟨xws0_of (i := 149) (by decide +kernel) rfl, List.forall_mem_cons.mpr ⟨xws0_of (i := 151) (by decide +kernel) rfl, List.forall_mem_cons.mpr ⟨xws0_of (i := 153) (by decide +kernel) rfl, List.forall_mem_cons.mpr ⟨xws0_of (i := 155) (by decide +kernel) rfl, List.forall_mem_cons.mpr ⟨xws0_of (i := 157) (by decide +kernel) rfl, fun _ h => absurd h List.not_mem_nil⟩⟩⟩⟩⟩⟩⟩
theorem xw_inst_4 : Cond.instantiable (xcn 4) (xN 5) ∈ xws0 := xws0_of (i := 16) (by decide +kernel) rfl
theorem xw_ini_4 : Cond.initialized (xcn 4) ∈ xws0 := xws0_of (i := 7) (by decide +kernel) rfl
theorem xw_lay_4 : ∀ w ∈ u_ws (xcn 4) (xT 5) (xN 5), w ∈ xws0 := by
  show ∀ w ∈ [u_lay (xcn 4) (xT 5) 0, u_lay (xcn 4) (xT 5) 1, u_lay (xcn 4) (xT 5) 2, u_lay (xcn 4) (xT 5) 3, u_lay (xcn 4) (xT 5) 4, u_lay (xcn 4) (xT 5) 5], w ∈ xws0
  exact List.forall_mem_cons.mpr ⟨xws0_of (i := 168) (by decide +kernel) rfl, List.forall_mem_cons.mpr ⟨xws0_of (i := 170) (by decide +kernel) rfl, List.forall_mem_cons.mpr ⟨xws0_of (i := 172) (by decide +kernel) rfl, List.forall_mem_cons.mpr ⟨xws0_of (i := 174) (by decide +kernel) rfl, List.forall_mem_cons.mpr ⟨xws0_of (i := 176) (by decide +kernel) rfl, List.forall_mem_cons.mpr ⟨xws0_of (i := 178) (by decide +kernel) rfl, fun _ h => absurd h List.not_mem_nil⟩⟩⟩⟩⟩⟩
/-- a method whose code the words hold -/
def xMok (y : xM) : Prop := Cond.code y.1 y.2.1 y.2.2.1 y.2.2.2.1 ∈ xws0 ∧ Cond.initialized y.1.cls ∈ xws0 ∧ (y.1.cls ≠ "java/lang/invoke/MethodHandle" ∧ y.1.cls ≠ "java/lang/invoke/VarHandle") ∧ y.1.cls = xcn (xown y) ∧ y.2.2.1 ≤ 15 ∧ plainName y.1.cls = true
set_option maxRecDepth 100000 in
theorem xMok_mX0_addToSum : xMok mX0_addToSum := ⟨xws0_of (i := 271) rfl rfl, xws0_of (i := 9) (by decide +kernel) rfl, ⟨by decide +kernel, by decide +kernel⟩, rfl, by decide, by decide +kernel⟩
set_option maxRecDepth 100000 in
theorem xMok_mX0_append : xMok mX0_append := ⟨xws0_of (i := 413) rfl rfl, xws0_of (i := 9) (by decide +kernel) rfl, ⟨by decide +kernel, by decide +kernel⟩, rfl, by decide, by decide +kernel⟩
set_option maxRecDepth 100000 in
theorem xMok_mX0_receive : xMok mX0_receive := ⟨xws0_of (i := 275) rfl rfl, xws0_of (i := 9) (by decide +kernel) rfl, ⟨by decide +kernel, by decide +kernel⟩, rfl, by decide, by decide +kernel⟩
set_option maxRecDepth 100000 in
theorem xMok_mX2_account : xMok mX2_account := ⟨xws0_of (i := 257) rfl rfl, xws0_of (i := 8) (by decide +kernel) rfl, ⟨by decide +kernel, by decide +kernel⟩, rfl, by decide, by decide +kernel⟩
set_option maxRecDepth 100000 in
theorem xMok_mX2_freeIfHeldBy : xMok mX2_freeIfHeldBy := ⟨xws0_of (i := 284) rfl rfl, xws0_of (i := 8) (by decide +kernel) rfl, ⟨by decide +kernel, by decide +kernel⟩, rfl, by decide, by decide +kernel⟩
set_option maxRecDepth 100000 in
theorem xMok_mX2_sendersTo : xMok mX2_sendersTo := ⟨xws0_of (i := 214) rfl rfl, xws0_of (i := 8) (by decide +kernel) rfl, ⟨by decide +kernel, by decide +kernel⟩, rfl, by decide, by decide +kernel⟩
set_option maxRecDepth 100000 in
theorem xMok_mX2_stateOf : xMok mX2_stateOf := ⟨xws0_of (i := 192) rfl rfl, xws0_of (i := 8) (by decide +kernel) rfl, ⟨by decide +kernel, by decide +kernel⟩, rfl, by decide, by decide +kernel⟩
set_option maxRecDepth 100000 in
theorem xMok_mX4_has : xMok mX4_has := ⟨xws0_of (i := 217) rfl rfl, xws0_of (i := 7) (by decide +kernel) rfl, ⟨by decide +kernel, by decide +kernel⟩, rfl, by decide, by decide +kernel⟩
set_option maxRecDepth 100000 in
theorem xMok_mX4_isCommand : xMok mX4_isCommand := ⟨xws0_of (i := 405) rfl rfl, xws0_of (i := 7) (by decide +kernel) rfl, ⟨by decide +kernel, by decide +kernel⟩, rfl, by decide, by decide +kernel⟩
set_option maxRecDepth 100000 in
theorem xMok_mX4_isContext : xMok mX4_isContext := ⟨xws0_of (i := 338) rfl rfl, xws0_of (i := 7) (by decide +kernel) rfl, ⟨by decide +kernel, by decide +kernel⟩, rfl, by decide, by decide +kernel⟩
set_option maxRecDepth 100000 in
theorem xMok_mX4_isLock : xMok mX4_isLock := ⟨xws0_of (i := 358) rfl rfl, xws0_of (i := 7) (by decide +kernel) rfl, ⟨by decide +kernel, by decide +kernel⟩, rfl, by decide, by decide +kernel⟩
set_option maxRecDepth 100000 in
theorem xMok_mX4_isPriority : xMok mX4_isPriority := ⟨xws0_of (i := 372) rfl rfl, xws0_of (i := 7) (by decide +kernel) rfl, ⟨by decide +kernel, by decide +kernel⟩, rfl, by decide, by decide +kernel⟩
set_option maxRecDepth 100000 in
theorem xMok_mX4_isSave : xMok mX4_isSave := ⟨xws0_of (i := 315) rfl rfl, xws0_of (i := 7) (by decide +kernel) rfl, ⟨by decide +kernel, by decide +kernel⟩, rfl, by decide, by decide +kernel⟩
set_option maxRecDepth 100000 in
theorem xMok_mX4_isStep : xMok mX4_isStep := ⟨xws0_of (i := 393) rfl rfl, xws0_of (i := 7) (by decide +kernel) rfl, ⟨by decide +kernel, by decide +kernel⟩, rfl, by decide, by decide +kernel⟩
set_option maxRecDepth 100000 in
theorem xMok_mL_cell : xMok mL_cell := ⟨xws0_of (i := 326) rfl rfl, xws0_of (i := 6) (by decide +kernel) rfl, ⟨by decide +kernel, by decide +kernel⟩, rfl, by decide, by decide +kernel⟩
set_option maxRecDepth 100000 in
theorem xMok_mL_low : xMok mL_low := ⟨xws0_of (i := 364) rfl rfl, xws0_of (i := 6) (by decide +kernel) rfl, ⟨by decide +kernel, by decide +kernel⟩, rfl, by decide, by decide +kernel⟩
set_option maxRecDepth 100000 in
theorem xMok_mJ6_bitCount_0f7a4 : xMok mJ6_bitCount_0f7a4 := ⟨xws0_of (i := 195) rfl rfl, xws0_of (i := 12) (by decide +kernel) rfl, ⟨by decide +kernel, by decide +kernel⟩, rfl, by decide, by decide +kernel⟩
set_option maxRecDepth 100000 in
theorem xMok_mX0_init : xMok mX0_init := ⟨xws0_of (i := 34) rfl rfl, xws0_of (i := 9) (by decide +kernel) rfl, ⟨by decide +kernel, by decide +kernel⟩, rfl, by decide, by decide +kernel⟩
set_option maxRecDepth 100000 in
theorem xMok_mX0_copyFrom : xMok mX0_copyFrom := ⟨xws0_of (i := 233) rfl rfl, xws0_of (i := 9) (by decide +kernel) rfl, ⟨by decide +kernel, by decide +kernel⟩, rfl, by decide, by decide +kernel⟩
set_option maxRecDepth 100000 in
theorem xMok_mX0_goBack : xMok mX0_goBack := ⟨xws0_of (i := 265) rfl rfl, xws0_of (i := 9) (by decide +kernel) rfl, ⟨by decide +kernel, by decide +kernel⟩, rfl, by decide, by decide +kernel⟩
set_option maxRecDepth 100000 in
theorem xMok_mX0_takeMessage : xMok mX0_takeMessage := ⟨xws0_of (i := 279) rfl rfl, xws0_of (i := 9) (by decide +kernel) rfl, ⟨by decide +kernel, by decide +kernel⟩, rfl, by decide, by decide +kernel⟩
set_option maxRecDepth 100000 in
theorem xMok_mX2_areDone : xMok mX2_areDone := ⟨xws0_of (i := 296) rfl rfl, xws0_of (i := 8) (by decide +kernel) rfl, ⟨by decide +kernel, by decide +kernel⟩, rfl, by decide, by decide +kernel⟩
set_option maxRecDepth 100000 in
theorem xMok_mX2_isStuck : xMok mX2_isStuck := ⟨xws0_of (i := 221) rfl rfl, xws0_of (i := 8) (by decide +kernel) rfl, ⟨by decide +kernel, by decide +kernel⟩, rfl, by decide, by decide +kernel⟩
set_option maxRecDepth 100000 in
theorem xMok_mX2_lentPriority : xMok mX2_lentPriority := ⟨xws0_of (i := 253) rfl rfl, xws0_of (i := 8) (by decide +kernel) rfl, ⟨by decide +kernel, by decide +kernel⟩, rfl, by decide, by decide +kernel⟩
set_option maxRecDepth 100000 in
theorem xMok_mX2_setIn : xMok mX2_setIn := ⟨xws0_of (i := 188) rfl rfl, xws0_of (i := 8) (by decide +kernel) rfl, ⟨by decide +kernel, by decide +kernel⟩, rfl, by decide, by decide +kernel⟩
set_option maxRecDepth 100000 in
theorem xMok_mX2_waitsOf : xMok mX2_waitsOf := ⟨xws0_of (i := 210) rfl rfl, xws0_of (i := 8) (by decide +kernel) rfl, ⟨by decide +kernel, by decide +kernel⟩, rfl, by decide, by decide +kernel⟩
set_option maxRecDepth 100000 in
theorem xMok_mX3_init : xMok mX3_init := ⟨xws0_of (i := 139) rfl rfl, xws0_of (i := 11) (by decide +kernel) rfl, ⟨by decide +kernel, by decide +kernel⟩, rfl, by decide, by decide +kernel⟩
set_option maxRecDepth 100000 in
theorem xMok_mX4_command : xMok mX4_command := ⟨xws0_of (i := 351) rfl rfl, xws0_of (i := 7) (by decide +kernel) rfl, ⟨by decide +kernel, by decide +kernel⟩, rfl, by decide, by decide +kernel⟩
set_option maxRecDepth 100000 in
theorem xMok_mX4_holder : xMok mX4_holder := ⟨xws0_of (i := 355) rfl rfl, xws0_of (i := 7) (by decide +kernel) rfl, ⟨by decide +kernel, by decide +kernel⟩, rfl, by decide, by decide +kernel⟩
set_option maxRecDepth 100000 in
theorem xMok_mX4_inbox : xMok mX4_inbox := ⟨xws0_of (i := 347) rfl rfl, xws0_of (i := 7) (by decide +kernel) rfl, ⟨by decide +kernel, by decide +kernel⟩, rfl, by decide, by decide +kernel⟩
set_option maxRecDepth 100000 in
theorem xMok_mX2_init : xMok mX2_init := ⟨xws0_of (i := 27) rfl rfl, xws0_of (i := 8) (by decide +kernel) rfl, ⟨by decide +kernel, by decide +kernel⟩, rfl, by decide, by decide +kernel⟩
set_option maxRecDepth 100000 in
theorem xMok_mX2_copyFrom : xMok mX2_copyFrom := ⟨xws0_of (i := 229) rfl rfl, xws0_of (i := 8) (by decide +kernel) rfl, ⟨by decide +kernel, by decide +kernel⟩, rfl, by decide, by decide +kernel⟩
set_option maxRecDepth 100000 in
theorem xMok_mX2_findAllWaits : xMok mX2_findAllWaits := ⟨xws0_of (i := 206) rfl rfl, xws0_of (i := 8) (by decide +kernel) rfl, ⟨by decide +kernel, by decide +kernel⟩, rfl, by decide, by decide +kernel⟩
set_option maxRecDepth 100000 in
theorem xMok_mX2_runNextOf : xMok mX2_runNextOf := ⟨xws0_of (i := 261) rfl rfl, xws0_of (i := 8) (by decide +kernel) rfl, ⟨by decide +kernel, by decide +kernel⟩, rfl, by decide, by decide +kernel⟩
set_option maxRecDepth 100000 in
theorem xMok_mX1_init : xMok mX1_init := ⟨xws0_of (i := 119) rfl rfl, xws0_of (i := 10) (by decide +kernel) rfl, ⟨by decide +kernel, by decide +kernel⟩, rfl, by decide, by decide +kernel⟩
set_option maxRecDepth 100000 in
theorem xMok_mX1_record : xMok mX1_record := ⟨xws0_of (i := 323) rfl rfl, xws0_of (i := 10) (by decide +kernel) rfl, ⟨by decide +kernel, by decide +kernel⟩, rfl, by decide, by decide +kernel⟩
set_option maxRecDepth 100000 in
theorem xMok_mX1_takeBack : xMok mX1_takeBack := ⟨xws0_of (i := 307) rfl rfl, xws0_of (i := 10) (by decide +kernel) rfl, ⟨by decide +kernel, by decide +kernel⟩, rfl, by decide, by decide +kernel⟩
set_option maxRecDepth 100000 in
theorem xMok_mX2_ringSet : xMok mX2_ringSet := ⟨xws0_of (i := 202) rfl rfl, xws0_of (i := 8) (by decide +kernel) rfl, ⟨by decide +kernel, by decide +kernel⟩, rfl, by decide, by decide +kernel⟩
set_option maxRecDepth 100000 in
theorem xMok_mX2_runnerInSlotOf : xMok mX2_runnerInSlotOf := ⟨xws0_of (i := 248) rfl rfl, xws0_of (i := 8) (by decide +kernel) rfl, ⟨by decide +kernel, by decide +kernel⟩, rfl, by decide, by decide +kernel⟩
set_option maxRecDepth 100000 in
theorem xMok_mX4_save : xMok mX4_save := ⟨xws0_of (i := 312) rfl rfl, xws0_of (i := 7) (by decide +kernel) rfl, ⟨by decide +kernel, by decide +kernel⟩, rfl, by decide, by decide +kernel⟩
set_option maxRecDepth 100000 in
theorem xMok_mX4_tryNow : xMok mX4_tryNow := ⟨xws0_of (i := 225) rfl rfl, xws0_of (i := 7) (by decide +kernel) rfl, ⟨by decide +kernel, by decide +kernel⟩, rfl, by decide, by decide +kernel⟩
set_option maxRecDepth 100000 in
theorem xMok_mX2_passSlot : xMok mX2_passSlot := ⟨xws0_of (i := 241) rfl rfl, xws0_of (i := 8) (by decide +kernel) rfl, ⟨by decide +kernel, by decide +kernel⟩, rfl, by decide, by decide +kernel⟩
set_option maxRecDepth 100000 in
theorem xMok_mX4_init : xMok mX4_init := ⟨xws0_of (i := 19) rfl rfl, xws0_of (i := 7) (by decide +kernel) rfl, ⟨by decide +kernel, by decide +kernel⟩, rfl, by decide, by decide +kernel⟩
set_option maxRecDepth 100000 in
theorem xMok_mX4_add : xMok mX4_add := ⟨xws0_of (i := 402) rfl rfl, xws0_of (i := 7) (by decide +kernel) rfl, ⟨by decide +kernel, by decide +kernel⟩, rfl, by decide, by decide +kernel⟩
set_option maxRecDepth 100000 in
theorem xMok_mX4_of : xMok mX4_of := ⟨xws0_of (i := 335) rfl rfl, xws0_of (i := 7) (by decide +kernel) rfl, ⟨by decide +kernel, by decide +kernel⟩, rfl, by decide, by decide +kernel⟩
set_option maxRecDepth 100000 in
theorem xMok_mX4_post : xMok mX4_post := ⟨xws0_of (i := 376) rfl rfl, xws0_of (i := 7) (by decide +kernel) rfl, ⟨by decide +kernel, by decide +kernel⟩, rfl, by decide, by decide +kernel⟩
set_option maxRecDepth 100000 in
theorem xMok_mX4_prefer : xMok mX4_prefer := ⟨xws0_of (i := 369) rfl rfl, xws0_of (i := 7) (by decide +kernel) rfl, ⟨by decide +kernel, by decide +kernel⟩, rfl, by decide, by decide +kernel⟩
set_option maxRecDepth 100000 in
theorem xMok_mX4_release : xMok mX4_release := ⟨xws0_of (i := 381) rfl rfl, xws0_of (i := 7) (by decide +kernel) rfl, ⟨by decide +kernel, by decide +kernel⟩, rfl, by decide, by decide +kernel⟩
set_option maxRecDepth 100000 in
theorem xMok_mX4_restore : xMok mX4_restore := ⟨xws0_of (i := 319) rfl rfl, xws0_of (i := 7) (by decide +kernel) rfl, ⟨by decide +kernel, by decide +kernel⟩, rfl, by decide, by decide +kernel⟩
set_option maxRecDepth 100000 in
theorem xMok_mX4_undo : xMok mX4_undo := ⟨xws0_of (i := 303) rfl rfl, xws0_of (i := 7) (by decide +kernel) rfl, ⟨by decide +kernel, by decide +kernel⟩, rfl, by decide, by decide +kernel⟩
set_option maxRecDepth 100000 in
theorem xMok_mX2_passSlots : xMok mX2_passSlots := ⟨xws0_of (i := 398) rfl rfl, xws0_of (i := 8) (by decide +kernel) rfl, ⟨by decide +kernel, by decide +kernel⟩, rfl, by decide, by decide +kernel⟩
set_option maxRecDepth 100000 in
theorem xMok_mX2_passUntilDone : xMok mX2_passUntilDone := ⟨xws0_of (i := 292) rfl rfl, xws0_of (i := 8) (by decide +kernel) rfl, ⟨by decide +kernel, by decide +kernel⟩, rfl, by decide, by decide +kernel⟩
set_option maxRecDepth 100000 in
theorem xMok_mX4_count : xMok mX4_count := ⟨xws0_of (i := 184) rfl rfl, xws0_of (i := 7) (by decide +kernel) rfl, ⟨by decide +kernel, by decide +kernel⟩, rfl, by decide, by decide +kernel⟩
set_option maxRecDepth 100000 in
theorem xMok_mX4_run : xMok mX4_run := ⟨xws0_of (i := 385) rfl rfl, xws0_of (i := 7) (by decide +kernel) rfl, ⟨by decide +kernel, by decide +kernel⟩, rfl, by decide, by decide +kernel⟩
set_option maxRecDepth 100000 in
theorem xMok_mX4_slotsLeft : xMok mX4_slotsLeft := ⟨xws0_of (i := 288) rfl rfl, xws0_of (i := 7) (by decide +kernel) rfl, ⟨by decide +kernel, by decide +kernel⟩, rfl, by decide, by decide +kernel⟩
set_option maxRecDepth 100000 in
theorem xMok_mX4_step : xMok mX4_step := ⟨xws0_of (i := 390) rfl rfl, xws0_of (i := 7) (by decide +kernel) rfl, ⟨by decide +kernel, by decide +kernel⟩, rfl, by decide, by decide +kernel⟩
set_option maxRecDepth 100000 in
theorem xMok_mL_addsUp : xMok mL_addsUp := ⟨xws0_of (i := 416) rfl rfl, xws0_of (i := 6) (by decide +kernel) rfl, ⟨by decide +kernel, by decide +kernel⟩, rfl, by decide, by decide +kernel⟩
set_option maxRecDepth 100000 in
theorem xMok_mL_digest : xMok mL_digest := ⟨xws0_of (i := 329) rfl rfl, xws0_of (i := 6) (by decide +kernel) rfl, ⟨by decide +kernel, by decide +kernel⟩, rfl, by decide, by decide +kernel⟩
set_option maxRecDepth 100000 in
theorem xMok_mL_act : xMok mL_act := ⟨xws0_of (i := 361) rfl rfl, xws0_of (i := 6) (by decide +kernel) rfl, ⟨by decide +kernel, by decide +kernel⟩, rfl, by decide, by decide +kernel⟩
def xCok (e : (Nat × Nat) × (xM × Nat × Nat)) : Prop := xMok e.2.1 ∧ (parseMethodDescriptor e.2.1.1.desc).map (fun d => d.parameters.length) = some e.2.2.1 ∧
  (e.2.2.2 = 0 → Cond.methodLink (xcn e.1.1) e.1.2 e.2.1.1 ∈ xws0 ∧ Cond.instanceMethod e.2.1.1 ∈ xws0 ∧ Cond.selects e.2.1.1.cls e.2.1.1 e.2.1.1 ∈ xws0 ∧ (xown e.2.1 ≤ 4)) ∧
  (e.2.2.2 = 1 → Cond.methodLink (xcn e.1.1) e.1.2 e.2.1.1 ∈ xws0 ∧ Cond.static e.2.1.1 ∈ xws0) ∧
  (e.2.2.2 = 2 → Cond.methodLink (xcn e.1.1) e.1.2 e.2.1.1 ∈ xws0 ∧ Cond.instanceMethod e.2.1.1 ∈ xws0 ∧ e.2.1.1.name = "<init>" ∧ e.2.1.2.2.2.1 = none) ∧
  (e.2.2.2 = 3 → Cond.methodLinkNest (xcn e.1.1) e.1.2 e.2.1.1 "TurnSlots" ∈ xNw ∧ Cond.static e.2.1.1 ∈ xws0) ∧
  (e.2.2.2 = 4 → Cond.methodLinkNest (xcn e.1.1) e.1.2 e.2.1.1 "TurnSlots" ∈ xNw ∧ Cond.instanceMethod e.2.1.1 ∈ xws0 ∧ e.2.1.1.name = "<init>" ∧ e.2.1.2.2.2.1 = none)
theorem xCt_ok_0 : xCok (((0, 61), (mX0_addToSum, 1, 0))) := ⟨xMok_mX0_addToSum, by decide +kernel, fun _ => ⟨xws0_of (i := 280) (by decide +kernel) rfl, xws0_of (i := 269) (by decide +kernel) rfl, xws0_of (i := 270) (by decide +kernel) rfl, by decide⟩, fun h => absurd h (by decide), fun h => absurd h (by decide), fun h => absurd h (by decide), fun h => absurd h (by decide)⟩
theorem xCt_ok_1 : xCok (((0, 65), (mX4_has, 2, 3))) := ⟨xMok_mX4_has, by decide +kernel, fun h => absurd h (by decide), fun h => absurd h (by decide), fun h => absurd h (by decide), fun _ => ⟨List.mem_of_getElem? (i := 3) (by decide +kernel), xws0_of (i := 216) (by decide +kernel) rfl⟩, fun h => absurd h (by decide)⟩
theorem xCt_ok_2 : xCok (((1, 17), (mX2_init, 0, 2))) := ⟨xMok_mX2_init, by decide +kernel, fun h => absurd h (by decide), fun h => absurd h (by decide), fun _ => ⟨xws0_of (i := 123) (by decide +kernel) rfl, xws0_of (i := 26) (by decide +kernel) rfl, rfl, rfl⟩, fun h => absurd h (by decide), fun h => absurd h (by decide)⟩
theorem xCt_ok_3 : xCok (((1, 25), (mX2_copyFrom, 1, 0))) := ⟨xMok_mX2_copyFrom, by decide +kernel, fun _ => ⟨xws0_of (i := 308) (by decide +kernel) rfl, xws0_of (i := 227) (by decide +kernel) rfl, xws0_of (i := 228) (by decide +kernel) rfl, by decide⟩, fun h => absurd h (by decide), fun h => absurd h (by decide), fun h => absurd h (by decide), fun h => absurd h (by decide)⟩
theorem xCt_ok_4 : xCok (((2, 24), (mX0_init, 0, 4))) := ⟨xMok_mX0_init, by decide +kernel, fun h => absurd h (by decide), fun h => absurd h (by decide), fun h => absurd h (by decide), fun h => absurd h (by decide), fun _ => ⟨List.mem_of_getElem? (i := 0) (by decide +kernel), xws0_of (i := 33) (by decide +kernel) rfl, rfl, rfl⟩⟩
theorem xCt_ok_5 : xCok (((2, 25), (mX0_copyFrom, 1, 0))) := ⟨xMok_mX0_copyFrom, by decide +kernel, fun _ => ⟨xws0_of (i := 230) (by decide +kernel) rfl, xws0_of (i := 231) (by decide +kernel) rfl, xws0_of (i := 232) (by decide +kernel) rfl, by decide⟩, fun h => absurd h (by decide), fun h => absurd h (by decide), fun h => absurd h (by decide), fun h => absurd h (by decide)⟩
theorem xCt_ok_6 : xCok (((2, 63), (mX2_stateOf, 1, 0))) := ⟨xMok_mX2_stateOf, by decide +kernel, fun _ => ⟨xws0_of (i := 189) (by decide +kernel) rfl, xws0_of (i := 190) (by decide +kernel) rfl, xws0_of (i := 191) (by decide +kernel) rfl, by decide⟩, fun h => absurd h (by decide), fun h => absurd h (by decide), fun h => absurd h (by decide), fun h => absurd h (by decide)⟩
theorem xCt_ok_7 : xCok (((2, 67), (mX4_has, 2, 3))) := ⟨xMok_mX4_has, by decide +kernel, fun h => absurd h (by decide), fun h => absurd h (by decide), fun h => absurd h (by decide), fun _ => ⟨List.mem_of_getElem? (i := 2) (by decide +kernel), xws0_of (i := 216) (by decide +kernel) rfl⟩, fun h => absurd h (by decide)⟩
theorem xCt_ok_8 : xCok (((2, 71), (mX2_sendersTo, 1, 0))) := ⟨xMok_mX2_sendersTo, by decide +kernel, fun _ => ⟨xws0_of (i := 211) (by decide +kernel) rfl, xws0_of (i := 213) (by decide +kernel) rfl, xws0_of (i := 0) (by decide +kernel) rfl, by decide⟩, fun h => absurd h (by decide), fun h => absurd h (by decide), fun h => absurd h (by decide), fun h => absurd h (by decide)⟩
theorem xCt_ok_9 : xCok (((2, 74), (mX2_waitsOf, 1, 0))) := ⟨xMok_mX2_waitsOf, by decide +kernel, fun _ => ⟨xws0_of (i := 207) (by decide +kernel) rfl, xws0_of (i := 208) (by decide +kernel) rfl, xws0_of (i := 209) (by decide +kernel) rfl, by decide⟩, fun h => absurd h (by decide), fun h => absurd h (by decide), fun h => absurd h (by decide), fun h => absurd h (by decide)⟩
theorem xCt_ok_10 : xCok (((2, 86), (mX2_findAllWaits, 0, 0))) := ⟨xMok_mX2_findAllWaits, by decide +kernel, fun _ => ⟨xws0_of (i := 203) (by decide +kernel) rfl, xws0_of (i := 204) (by decide +kernel) rfl, xws0_of (i := 205) (by decide +kernel) rfl, by decide⟩, fun h => absurd h (by decide), fun h => absurd h (by decide), fun h => absurd h (by decide), fun h => absurd h (by decide)⟩
theorem xCt_ok_11 : xCok (((2, 90), (mX2_passSlot, 0, 0))) := ⟨xMok_mX2_passSlot, by decide +kernel, fun _ => ⟨xws0_of (i := 298) (by decide +kernel) rfl, xws0_of (i := 239) (by decide +kernel) rfl, xws0_of (i := 240) (by decide +kernel) rfl, by decide⟩, fun h => absurd h (by decide), fun h => absurd h (by decide), fun h => absurd h (by decide), fun h => absurd h (by decide)⟩
theorem xCt_ok_12 : xCok (((2, 94), (mX2_areDone, 1, 0))) := ⟨xMok_mX2_areDone, by decide +kernel, fun _ => ⟨xws0_of (i := 293) (by decide +kernel) rfl, xws0_of (i := 294) (by decide +kernel) rfl, xws0_of (i := 295) (by decide +kernel) rfl, by decide⟩, fun h => absurd h (by decide), fun h => absurd h (by decide), fun h => absurd h (by decide), fun h => absurd h (by decide)⟩
theorem xCt_ok_13 : xCok (((2, 98), (mX2_isStuck, 0, 0))) := ⟨xMok_mX2_isStuck, by decide +kernel, fun _ => ⟨xws0_of (i := 297) (by decide +kernel) rfl, xws0_of (i := 219) (by decide +kernel) rfl, xws0_of (i := 220) (by decide +kernel) rfl, by decide⟩, fun h => absurd h (by decide), fun h => absurd h (by decide), fun h => absurd h (by decide), fun h => absurd h (by decide)⟩
theorem xCt_ok_14 : xCok (((2, 102), (mX2_runnerInSlotOf, 1, 0))) := ⟨xMok_mX2_runnerInSlotOf, by decide +kernel, fun _ => ⟨xws0_of (i := 245) (by decide +kernel) rfl, xws0_of (i := 247) (by decide +kernel) rfl, xws0_of (i := 2) (by decide +kernel) rfl, by decide⟩, fun h => absurd h (by decide), fun h => absurd h (by decide), fun h => absurd h (by decide), fun h => absurd h (by decide)⟩
theorem xCt_ok_15 : xCok (((2, 105), (mX2_account, 2, 0))) := ⟨xMok_mX2_account, by decide +kernel, fun _ => ⟨xws0_of (i := 254) (by decide +kernel) rfl, xws0_of (i := 256) (by decide +kernel) rfl, xws0_of (i := 3) (by decide +kernel) rfl, by decide⟩, fun h => absurd h (by decide), fun h => absurd h (by decide), fun h => absurd h (by decide), fun h => absurd h (by decide)⟩
theorem xCt_ok_16 : xCok (((2, 109), (mX2_runNextOf, 1, 0))) := ⟨xMok_mX2_runNextOf, by decide +kernel, fun _ => ⟨xws0_of (i := 258) (by decide +kernel) rfl, xws0_of (i := 260) (by decide +kernel) rfl, xws0_of (i := 4) (by decide +kernel) rfl, by decide⟩, fun h => absurd h (by decide), fun h => absurd h (by decide), fun h => absurd h (by decide), fun h => absurd h (by decide)⟩
theorem xCt_ok_17 : xCok (((2, 113), (mX2_setIn, 1, 0))) := ⟨xMok_mX2_setIn, by decide +kernel, fun _ => ⟨xws0_of (i := 249) (by decide +kernel) rfl, xws0_of (i := 186) (by decide +kernel) rfl, xws0_of (i := 187) (by decide +kernel) rfl, by decide⟩, fun h => absurd h (by decide), fun h => absurd h (by decide), fun h => absurd h (by decide), fun h => absurd h (by decide)⟩
theorem xCt_ok_18 : xCok (((2, 116), (mX2_lentPriority, 2, 0))) := ⟨xMok_mX2_lentPriority, by decide +kernel, fun _ => ⟨xws0_of (i := 250) (by decide +kernel) rfl, xws0_of (i := 251) (by decide +kernel) rfl, xws0_of (i := 252) (by decide +kernel) rfl, by decide⟩, fun h => absurd h (by decide), fun h => absurd h (by decide), fun h => absurd h (by decide), fun h => absurd h (by decide)⟩
theorem xCt_ok_19 : xCok (((2, 123), (mX0_goBack, 1, 0))) := ⟨xMok_mX0_goBack, by decide +kernel, fun _ => ⟨xws0_of (i := 262) (by decide +kernel) rfl, xws0_of (i := 263) (by decide +kernel) rfl, xws0_of (i := 264) (by decide +kernel) rfl, by decide⟩, fun h => absurd h (by decide), fun h => absurd h (by decide), fun h => absurd h (by decide), fun h => absurd h (by decide)⟩
theorem xCt_ok_20 : xCok (((2, 126), (mX0_addToSum, 1, 0))) := ⟨xMok_mX0_addToSum, by decide +kernel, fun _ => ⟨xws0_of (i := 268) (by decide +kernel) rfl, xws0_of (i := 269) (by decide +kernel) rfl, xws0_of (i := 270) (by decide +kernel) rfl, by decide⟩, fun h => absurd h (by decide), fun h => absurd h (by decide), fun h => absurd h (by decide), fun h => absurd h (by decide)⟩
theorem xCt_ok_21 : xCok (((2, 132), (mX0_receive, 1, 0))) := ⟨xMok_mX0_receive, by decide +kernel, fun _ => ⟨xws0_of (i := 272) (by decide +kernel) rfl, xws0_of (i := 273) (by decide +kernel) rfl, xws0_of (i := 274) (by decide +kernel) rfl, by decide⟩, fun h => absurd h (by decide), fun h => absurd h (by decide), fun h => absurd h (by decide), fun h => absurd h (by decide)⟩
theorem xCt_ok_22 : xCok (((2, 135), (mX0_takeMessage, 0, 0))) := ⟨xMok_mX0_takeMessage, by decide +kernel, fun _ => ⟨xws0_of (i := 276) (by decide +kernel) rfl, xws0_of (i := 277) (by decide +kernel) rfl, xws0_of (i := 278) (by decide +kernel) rfl, by decide⟩, fun h => absurd h (by decide), fun h => absurd h (by decide), fun h => absurd h (by decide), fun h => absurd h (by decide)⟩
theorem xCt_ok_23 : xCok (((2, 138), (mX2_freeIfHeldBy, 2, 0))) := ⟨xMok_mX2_freeIfHeldBy, by decide +kernel, fun _ => ⟨xws0_of (i := 281) (by decide +kernel) rfl, xws0_of (i := 283) (by decide +kernel) rfl, xws0_of (i := 5) (by decide +kernel) rfl, by decide⟩, fun h => absurd h (by decide), fun h => absurd h (by decide), fun h => absurd h (by decide), fun h => absurd h (by decide)⟩
theorem xCt_ok_24 : xCok (((4, 9), (mX2_init, 0, 2))) := ⟨xMok_mX2_init, by decide +kernel, fun h => absurd h (by decide), fun h => absurd h (by decide), fun _ => ⟨xws0_of (i := 25) (by decide +kernel) rfl, xws0_of (i := 26) (by decide +kernel) rfl, rfl, rfl⟩, fun h => absurd h (by decide), fun h => absurd h (by decide)⟩
theorem xCt_ok_25 : xCok (((4, 21), (mX1_init, 0, 2))) := ⟨xMok_mX1_init, by decide +kernel, fun h => absurd h (by decide), fun h => absurd h (by decide), fun _ => ⟨xws0_of (i := 117) (by decide +kernel) rfl, xws0_of (i := 118) (by decide +kernel) rfl, rfl, rfl⟩, fun h => absurd h (by decide), fun h => absurd h (by decide)⟩
theorem xCt_ok_26 : xCok (((4, 36), (mX3_init, 0, 4))) := ⟨xMok_mX3_init, by decide +kernel, fun h => absurd h (by decide), fun h => absurd h (by decide), fun h => absurd h (by decide), fun h => absurd h (by decide), fun _ => ⟨List.mem_of_getElem? (i := 1) (by decide +kernel), xws0_of (i := 138) (by decide +kernel) rfl, rfl, rfl⟩⟩
theorem xCt_ok_27 : xCok (((4, 41), (mX4_isContext, 1, 1))) := ⟨xMok_mX4_isContext, by decide +kernel, fun h => absurd h (by decide), fun _ => ⟨xws0_of (i := 336) (by decide +kernel) rfl, xws0_of (i := 337) (by decide +kernel) rfl⟩, fun h => absurd h (by decide), fun h => absurd h (by decide), fun h => absurd h (by decide)⟩
theorem xCt_ok_28 : xCok (((4, 45), (mX4_isCommand, 2, 1))) := ⟨xMok_mX4_isCommand, by decide +kernel, fun h => absurd h (by decide), fun _ => ⟨xws0_of (i := 403) (by decide +kernel) rfl, xws0_of (i := 404) (by decide +kernel) rfl⟩, fun h => absurd h (by decide), fun h => absurd h (by decide), fun h => absurd h (by decide)⟩
theorem xCt_ok_29 : xCok (((4, 59), (mX1_record, 1, 0))) := ⟨xMok_mX1_record, by decide +kernel, fun _ => ⟨xws0_of (i := 320) (by decide +kernel) rfl, xws0_of (i := 321) (by decide +kernel) rfl, xws0_of (i := 322) (by decide +kernel) rfl, by decide⟩, fun h => absurd h (by decide), fun h => absurd h (by decide), fun h => absurd h (by decide), fun h => absurd h (by decide)⟩
theorem xCt_ok_30 : xCok (((4, 63), (mX0_append, 2, 0))) := ⟨xMok_mX0_append, by decide +kernel, fun _ => ⟨xws0_of (i := 410) (by decide +kernel) rfl, xws0_of (i := 411) (by decide +kernel) rfl, xws0_of (i := 412) (by decide +kernel) rfl, by decide⟩, fun h => absurd h (by decide), fun h => absurd h (by decide), fun h => absurd h (by decide), fun h => absurd h (by decide)⟩
theorem xCt_ok_31 : xCok (((4, 81), (mX4_isPriority, 1, 1))) := ⟨xMok_mX4_isPriority, by decide +kernel, fun h => absurd h (by decide), fun _ => ⟨xws0_of (i := 370) (by decide +kernel) rfl, xws0_of (i := 371) (by decide +kernel) rfl⟩, fun h => absurd h (by decide), fun h => absurd h (by decide), fun h => absurd h (by decide)⟩
theorem xCt_ok_32 : xCok (((4, 90), (mX0_receive, 1, 0))) := ⟨xMok_mX0_receive, by decide +kernel, fun _ => ⟨xws0_of (i := 377) (by decide +kernel) rfl, xws0_of (i := 273) (by decide +kernel) rfl, xws0_of (i := 274) (by decide +kernel) rfl, by decide⟩, fun h => absurd h (by decide), fun h => absurd h (by decide), fun h => absurd h (by decide), fun h => absurd h (by decide)⟩
theorem xCt_ok_33 : xCok (((4, 94), (mX4_isLock, 1, 1))) := ⟨xMok_mX4_isLock, by decide +kernel, fun h => absurd h (by decide), fun _ => ⟨xws0_of (i := 356) (by decide +kernel) rfl, xws0_of (i := 357) (by decide +kernel) rfl⟩, fun h => absurd h (by decide), fun h => absurd h (by decide), fun h => absurd h (by decide)⟩
theorem xCt_ok_34 : xCok (((4, 101), (mX4_isStep, 1, 1))) := ⟨xMok_mX4_isStep, by decide +kernel, fun h => absurd h (by decide), fun _ => ⟨xws0_of (i := 391) (by decide +kernel) rfl, xws0_of (i := 392) (by decide +kernel) rfl⟩, fun h => absurd h (by decide), fun h => absurd h (by decide), fun h => absurd h (by decide)⟩
theorem xCt_ok_35 : xCok (((4, 108), (mX2_passSlots, 1, 0))) := ⟨xMok_mX2_passSlots, by decide +kernel, fun _ => ⟨xws0_of (i := 395) (by decide +kernel) rfl, xws0_of (i := 396) (by decide +kernel) rfl, xws0_of (i := 397) (by decide +kernel) rfl, by decide⟩, fun h => absurd h (by decide), fun h => absurd h (by decide), fun h => absurd h (by decide), fun h => absurd h (by decide)⟩
theorem xCt_ok_36 : xCok (((4, 113), (mX2_passUntilDone, 1, 0))) := ⟨xMok_mX2_passUntilDone, by decide +kernel, fun _ => ⟨xws0_of (i := 289) (by decide +kernel) rfl, xws0_of (i := 290) (by decide +kernel) rfl, xws0_of (i := 291) (by decide +kernel) rfl, by decide⟩, fun h => absurd h (by decide), fun h => absurd h (by decide), fun h => absurd h (by decide), fun h => absurd h (by decide)⟩
theorem xCt_ok_37 : xCok (((4, 122), (mX2_findAllWaits, 0, 0))) := ⟨xMok_mX2_findAllWaits, by decide +kernel, fun _ => ⟨xws0_of (i := 339) (by decide +kernel) rfl, xws0_of (i := 204) (by decide +kernel) rfl, xws0_of (i := 205) (by decide +kernel) rfl, by decide⟩, fun h => absurd h (by decide), fun h => absurd h (by decide), fun h => absurd h (by decide), fun h => absurd h (by decide)⟩
theorem xCt_ok_38 : xCok (((4, 126), (mX2_lentPriority, 2, 0))) := ⟨xMok_mX2_lentPriority, by decide +kernel, fun _ => ⟨xws0_of (i := 340) (by decide +kernel) rfl, xws0_of (i := 251) (by decide +kernel) rfl, xws0_of (i := 252) (by decide +kernel) rfl, by decide⟩, fun h => absurd h (by decide), fun h => absurd h (by decide), fun h => absurd h (by decide), fun h => absurd h (by decide)⟩
theorem xCt_ok_39 : xCok (((4, 133), (mX2_stateOf, 1, 0))) := ⟨xMok_mX2_stateOf, by decide +kernel, fun _ => ⟨xws0_of (i := 341) (by decide +kernel) rfl, xws0_of (i := 190) (by decide +kernel) rfl, xws0_of (i := 191) (by decide +kernel) rfl, by decide⟩, fun h => absurd h (by decide), fun h => absurd h (by decide), fun h => absurd h (by decide), fun h => absurd h (by decide)⟩
theorem xCt_ok_40 : xCok (((4, 136), (mX2_waitsOf, 1, 0))) := ⟨xMok_mX2_waitsOf, by decide +kernel, fun _ => ⟨xws0_of (i := 342) (by decide +kernel) rfl, xws0_of (i := 208) (by decide +kernel) rfl, xws0_of (i := 209) (by decide +kernel) rfl, by decide⟩, fun h => absurd h (by decide), fun h => absurd h (by decide), fun h => absurd h (by decide), fun h => absurd h (by decide)⟩
theorem xCt_ok_41 : xCok (((4, 139), (mX2_ringSet, 0, 0))) := ⟨xMok_mX2_ringSet, by decide +kernel, fun _ => ⟨xws0_of (i := 199) (by decide +kernel) rfl, xws0_of (i := 200) (by decide +kernel) rfl, xws0_of (i := 201) (by decide +kernel) rfl, by decide⟩, fun h => absurd h (by decide), fun h => absurd h (by decide), fun h => absurd h (by decide), fun h => absurd h (by decide)⟩
theorem xCt_ok_42 : xCok (((4, 142), (mX4_has, 2, 1))) := ⟨xMok_mX4_has, by decide +kernel, fun h => absurd h (by decide), fun _ => ⟨xws0_of (i := 343) (by decide +kernel) rfl, xws0_of (i := 216) (by decide +kernel) rfl⟩, fun h => absurd h (by decide), fun h => absurd h (by decide), fun h => absurd h (by decide)⟩
theorem xCt_ok_43 : xCok (((4, 160), (mX2_setIn, 1, 0))) := ⟨xMok_mX2_setIn, by decide +kernel, fun _ => ⟨xws0_of (i := 185) (by decide +kernel) rfl, xws0_of (i := 186) (by decide +kernel) rfl, xws0_of (i := 187) (by decide +kernel) rfl, by decide⟩, fun h => absurd h (by decide), fun h => absurd h (by decide), fun h => absurd h (by decide), fun h => absurd h (by decide)⟩
theorem xCt_ok_44 : xCok (((4, 163), (mJ6_bitCount_0f7a4, 1, 1))) := ⟨xMok_mJ6_bitCount_0f7a4, by decide +kernel, fun h => absurd h (by decide), fun _ => ⟨xws0_of (i := 193) (by decide +kernel) rfl, xws0_of (i := 194) (by decide +kernel) rfl⟩, fun h => absurd h (by decide), fun h => absurd h (by decide), fun h => absurd h (by decide)⟩
theorem xCt_ok_45 : xCok (((4, 168), (mX2_isStuck, 0, 0))) := ⟨xMok_mX2_isStuck, by decide +kernel, fun _ => ⟨xws0_of (i := 218) (by decide +kernel) rfl, xws0_of (i := 219) (by decide +kernel) rfl, xws0_of (i := 220) (by decide +kernel) rfl, by decide⟩, fun h => absurd h (by decide), fun h => absurd h (by decide), fun h => absurd h (by decide), fun h => absurd h (by decide)⟩
theorem xCt_ok_46 : xCok (((4, 178), (mX4_tryNow, 0, 0))) := ⟨xMok_mX4_tryNow, by decide +kernel, fun _ => ⟨xws0_of (i := 222) (by decide +kernel) rfl, xws0_of (i := 224) (by decide +kernel) rfl, xws0_of (i := 1) (by decide +kernel) rfl, by decide⟩, fun h => absurd h (by decide), fun h => absurd h (by decide), fun h => absurd h (by decide), fun h => absurd h (by decide)⟩
theorem xCt_ok_47 : xCok (((4, 182), (mX2_passSlot, 0, 0))) := ⟨xMok_mX2_passSlot, by decide +kernel, fun _ => ⟨xws0_of (i := 238) (by decide +kernel) rfl, xws0_of (i := 239) (by decide +kernel) rfl, xws0_of (i := 240) (by decide +kernel) rfl, by decide⟩, fun h => absurd h (by decide), fun h => absurd h (by decide), fun h => absurd h (by decide), fun h => absurd h (by decide)⟩
theorem xCt_ok_48 : xCok (((4, 188), (mX2_areDone, 1, 0))) := ⟨xMok_mX2_areDone, by decide +kernel, fun _ => ⟨xws0_of (i := 299) (by decide +kernel) rfl, xws0_of (i := 294) (by decide +kernel) rfl, xws0_of (i := 295) (by decide +kernel) rfl, by decide⟩, fun h => absurd h (by decide), fun h => absurd h (by decide), fun h => absurd h (by decide), fun h => absurd h (by decide)⟩
theorem xCt_ok_49 : xCok (((4, 198), (mX1_takeBack, 1, 0))) := ⟨xMok_mX1_takeBack, by decide +kernel, fun _ => ⟨xws0_of (i := 304) (by decide +kernel) rfl, xws0_of (i := 305) (by decide +kernel) rfl, xws0_of (i := 306) (by decide +kernel) rfl, by decide⟩, fun h => absurd h (by decide), fun h => absurd h (by decide), fun h => absurd h (by decide), fun h => absurd h (by decide)⟩
theorem xCt_ok_50 : xCok (((4, 201), (mX4_isSave, 1, 1))) := ⟨xMok_mX4_isSave, by decide +kernel, fun h => absurd h (by decide), fun _ => ⟨xws0_of (i := 313) (by decide +kernel) rfl, xws0_of (i := 314) (by decide +kernel) rfl⟩, fun h => absurd h (by decide), fun h => absurd h (by decide), fun h => absurd h (by decide)⟩
theorem xCt_ok_51 : xCok (((4, 204), (mX2_copyFrom, 1, 0))) := ⟨xMok_mX2_copyFrom, by decide +kernel, fun _ => ⟨xws0_of (i := 226) (by decide +kernel) rfl, xws0_of (i := 227) (by decide +kernel) rfl, xws0_of (i := 228) (by decide +kernel) rfl, by decide⟩, fun h => absurd h (by decide), fun h => absurd h (by decide), fun h => absurd h (by decide), fun h => absurd h (by decide)⟩
theorem xCt_ok_52 : xCok (((6, 12), (mX4_count, 1, 0))) := ⟨xMok_mX4_count, by decide +kernel, fun _ => ⟨xws0_of (i := 181) (by decide +kernel) rfl, xws0_of (i := 182) (by decide +kernel) rfl, xws0_of (i := 183) (by decide +kernel) rfl, by decide⟩, fun h => absurd h (by decide), fun h => absurd h (by decide), fun h => absurd h (by decide), fun h => absurd h (by decide)⟩
theorem xCt_ok_53 : xCok (((6, 18), (mX4_of, 2, 0))) := ⟨xMok_mX4_of, by decide +kernel, fun _ => ⟨xws0_of (i := 332) (by decide +kernel) rfl, xws0_of (i := 333) (by decide +kernel) rfl, xws0_of (i := 334) (by decide +kernel) rfl, by decide⟩, fun h => absurd h (by decide), fun h => absurd h (by decide), fun h => absurd h (by decide), fun h => absurd h (by decide)⟩
theorem xCt_ok_54 : xCok (((6, 22), (mX4_inbox, 2, 0))) := ⟨xMok_mX4_inbox, by decide +kernel, fun _ => ⟨xws0_of (i := 344) (by decide +kernel) rfl, xws0_of (i := 345) (by decide +kernel) rfl, xws0_of (i := 346) (by decide +kernel) rfl, by decide⟩, fun h => absurd h (by decide), fun h => absurd h (by decide), fun h => absurd h (by decide), fun h => absurd h (by decide)⟩
theorem xCt_ok_55 : xCok (((6, 25), (mX4_command, 3, 0))) := ⟨xMok_mX4_command, by decide +kernel, fun _ => ⟨xws0_of (i := 348) (by decide +kernel) rfl, xws0_of (i := 349) (by decide +kernel) rfl, xws0_of (i := 350) (by decide +kernel) rfl, by decide⟩, fun h => absurd h (by decide), fun h => absurd h (by decide), fun h => absurd h (by decide), fun h => absurd h (by decide)⟩
theorem xCt_ok_56 : xCok (((6, 29), (mX4_holder, 1, 0))) := ⟨xMok_mX4_holder, by decide +kernel, fun _ => ⟨xws0_of (i := 352) (by decide +kernel) rfl, xws0_of (i := 353) (by decide +kernel) rfl, xws0_of (i := 354) (by decide +kernel) rfl, by decide⟩, fun h => absurd h (by decide), fun h => absurd h (by decide), fun h => absurd h (by decide), fun h => absurd h (by decide)⟩
theorem xCt_ok_57 : xCok (((6, 32), (mL_low, 2, 1))) := ⟨xMok_mL_low, by decide +kernel, fun h => absurd h (by decide), fun _ => ⟨xws0_of (i := 362) (by decide +kernel) rfl, xws0_of (i := 363) (by decide +kernel) rfl⟩, fun h => absurd h (by decide), fun h => absurd h (by decide), fun h => absurd h (by decide)⟩
theorem xCt_ok_58 : xCok (((6, 37), (mX4_prefer, 2, 0))) := ⟨xMok_mX4_prefer, by decide +kernel, fun _ => ⟨xws0_of (i := 366) (by decide +kernel) rfl, xws0_of (i := 367) (by decide +kernel) rfl, xws0_of (i := 368) (by decide +kernel) rfl, by decide⟩, fun h => absurd h (by decide), fun h => absurd h (by decide), fun h => absurd h (by decide), fun h => absurd h (by decide)⟩
theorem xCt_ok_59 : xCok (((6, 40), (mX4_post, 2, 0))) := ⟨xMok_mX4_post, by decide +kernel, fun _ => ⟨xws0_of (i := 373) (by decide +kernel) rfl, xws0_of (i := 374) (by decide +kernel) rfl, xws0_of (i := 375) (by decide +kernel) rfl, by decide⟩, fun h => absurd h (by decide), fun h => absurd h (by decide), fun h => absurd h (by decide), fun h => absurd h (by decide)⟩
theorem xCt_ok_60 : xCok (((6, 43), (mX4_release, 1, 0))) := ⟨xMok_mX4_release, by decide +kernel, fun _ => ⟨xws0_of (i := 378) (by decide +kernel) rfl, xws0_of (i := 379) (by decide +kernel) rfl, xws0_of (i := 380) (by decide +kernel) rfl, by decide⟩, fun h => absurd h (by decide), fun h => absurd h (by decide), fun h => absurd h (by decide), fun h => absurd h (by decide)⟩
theorem xCt_ok_61 : xCok (((6, 46), (mX4_run, 0, 0))) := ⟨xMok_mX4_run, by decide +kernel, fun _ => ⟨xws0_of (i := 382) (by decide +kernel) rfl, xws0_of (i := 383) (by decide +kernel) rfl, xws0_of (i := 384) (by decide +kernel) rfl, by decide⟩, fun h => absurd h (by decide), fun h => absurd h (by decide), fun h => absurd h (by decide), fun h => absurd h (by decide)⟩
theorem xCt_ok_62 : xCok (((6, 50), (mX4_step, 1, 0))) := ⟨xMok_mX4_step, by decide +kernel, fun _ => ⟨xws0_of (i := 387) (by decide +kernel) rfl, xws0_of (i := 388) (by decide +kernel) rfl, xws0_of (i := 389) (by decide +kernel) rfl, by decide⟩, fun h => absurd h (by decide), fun h => absurd h (by decide), fun h => absurd h (by decide), fun h => absurd h (by decide)⟩
theorem xCt_ok_63 : xCok (((6, 53), (mX4_add, 3, 0))) := ⟨xMok_mX4_add, by decide +kernel, fun _ => ⟨xws0_of (i := 399) (by decide +kernel) rfl, xws0_of (i := 400) (by decide +kernel) rfl, xws0_of (i := 401) (by decide +kernel) rfl, by decide⟩, fun h => absurd h (by decide), fun h => absurd h (by decide), fun h => absurd h (by decide), fun h => absurd h (by decide)⟩
theorem xCt_ok_64 : xCok (((6, 56), (mX4_init, 0, 2))) := ⟨xMok_mX4_init, by decide +kernel, fun h => absurd h (by decide), fun h => absurd h (by decide), fun _ => ⟨xws0_of (i := 17) (by decide +kernel) rfl, xws0_of (i := 18) (by decide +kernel) rfl, rfl, rfl⟩, fun h => absurd h (by decide), fun h => absurd h (by decide)⟩
theorem xCt_ok_65 : xCok (((6, 57), (mL_digest, 1, 1))) := ⟨xMok_mL_digest, by decide +kernel, fun h => absurd h (by decide), fun _ => ⟨xws0_of (i := 327) (by decide +kernel) rfl, xws0_of (i := 328) (by decide +kernel) rfl⟩, fun h => absurd h (by decide), fun h => absurd h (by decide), fun h => absurd h (by decide)⟩
theorem xCt_ok_66 : xCok (((6, 61), (mX4_save, 1, 0))) := ⟨xMok_mX4_save, by decide +kernel, fun _ => ⟨xws0_of (i := 309) (by decide +kernel) rfl, xws0_of (i := 310) (by decide +kernel) rfl, xws0_of (i := 311) (by decide +kernel) rfl, by decide⟩, fun h => absurd h (by decide), fun h => absurd h (by decide), fun h => absurd h (by decide), fun h => absurd h (by decide)⟩
theorem xCt_ok_67 : xCok (((6, 64), (mX4_undo, 0, 0))) := ⟨xMok_mX4_undo, by decide +kernel, fun _ => ⟨xws0_of (i := 300) (by decide +kernel) rfl, xws0_of (i := 301) (by decide +kernel) rfl, xws0_of (i := 302) (by decide +kernel) rfl, by decide⟩, fun h => absurd h (by decide), fun h => absurd h (by decide), fun h => absurd h (by decide), fun h => absurd h (by decide)⟩
theorem xCt_ok_68 : xCok (((6, 67), (mX4_restore, 1, 0))) := ⟨xMok_mX4_restore, by decide +kernel, fun _ => ⟨xws0_of (i := 316) (by decide +kernel) rfl, xws0_of (i := 317) (by decide +kernel) rfl, xws0_of (i := 318) (by decide +kernel) rfl, by decide⟩, fun h => absurd h (by decide), fun h => absurd h (by decide), fun h => absurd h (by decide), fun h => absurd h (by decide)⟩
theorem xCt_ok_69 : xCok (((6, 70), (mL_cell, 2, 1))) := ⟨xMok_mL_cell, by decide +kernel, fun h => absurd h (by decide), fun _ => ⟨xws0_of (i := 324) (by decide +kernel) rfl, xws0_of (i := 325) (by decide +kernel) rfl⟩, fun h => absurd h (by decide), fun h => absurd h (by decide), fun h => absurd h (by decide)⟩
theorem xCt_ok_70 : xCok (((6, 74), (mL_act, 3, 1))) := ⟨xMok_mL_act, by decide +kernel, fun h => absurd h (by decide), fun _ => ⟨xws0_of (i := 359) (by decide +kernel) rfl, xws0_of (i := 360) (by decide +kernel) rfl⟩, fun h => absurd h (by decide), fun h => absurd h (by decide), fun h => absurd h (by decide)⟩
theorem xCt_ok_71 : xCok (((6, 78), (mL_addsUp, 1, 1))) := ⟨xMok_mL_addsUp, by decide +kernel, fun h => absurd h (by decide), fun _ => ⟨xws0_of (i := 414) (by decide +kernel) rfl, xws0_of (i := 415) (by decide +kernel) rfl⟩, fun h => absurd h (by decide), fun h => absurd h (by decide), fun h => absurd h (by decide)⟩
theorem xCt_ok_72 : xCok (((6, 82), (mX4_slotsLeft, 0, 0))) := ⟨xMok_mX4_slotsLeft, by decide +kernel, fun _ => ⟨xws0_of (i := 285) (by decide +kernel) rfl, xws0_of (i := 286) (by decide +kernel) rfl, xws0_of (i := 287) (by decide +kernel) rfl, by decide⟩, fun h => absurd h (by decide), fun h => absurd h (by decide), fun h => absurd h (by decide), fun h => absurd h (by decide)⟩
set_option maxRecDepth 4000 in
theorem xCt_ok : ∀ e ∈ xCt, xCok e := List.forall_mem_cons.mpr ⟨xCt_ok_0, List.forall_mem_cons.mpr ⟨xCt_ok_1, List.forall_mem_cons.mpr ⟨xCt_ok_2, List.forall_mem_cons.mpr ⟨xCt_ok_3, List.forall_mem_cons.mpr ⟨xCt_ok_4, List.forall_mem_cons.mpr ⟨xCt_ok_5, List.forall_mem_cons.mpr ⟨xCt_ok_6, List.forall_mem_cons.mpr ⟨xCt_ok_7, List.forall_mem_cons.mpr ⟨xCt_ok_8, List.forall_mem_cons.mpr ⟨xCt_ok_9, List.forall_mem_cons.mpr ⟨xCt_ok_10, List.forall_mem_cons.mpr ⟨xCt_ok_11, List.forall_mem_cons.mpr ⟨xCt_ok_12, List.forall_mem_cons.mpr ⟨xCt_ok_13, List.forall_mem_cons.mpr ⟨xCt_ok_14, List.forall_mem_cons.mpr ⟨xCt_ok_15, List.forall_mem_cons.mpr ⟨xCt_ok_16, List.forall_mem_cons.mpr ⟨xCt_ok_17, List.forall_mem_cons.mpr ⟨xCt_ok_18, List.forall_mem_cons.mpr ⟨xCt_ok_19, List.forall_mem_cons.mpr ⟨xCt_ok_20, List.forall_mem_cons.mpr ⟨xCt_ok_21, List.forall_mem_cons.mpr ⟨xCt_ok_22, List.forall_mem_cons.mpr ⟨xCt_ok_23, List.forall_mem_cons.mpr ⟨xCt_ok_24, List.forall_mem_cons.mpr ⟨xCt_ok_25, List.forall_mem_cons.mpr ⟨xCt_ok_26, List.forall_mem_cons.mpr ⟨xCt_ok_27, List.forall_mem_cons.mpr ⟨xCt_ok_28, List.forall_mem_cons.mpr ⟨xCt_ok_29, List.forall_mem_cons.mpr ⟨xCt_ok_30, List.forall_mem_cons.mpr ⟨xCt_ok_31, List.forall_mem_cons.mpr ⟨xCt_ok_32, List.forall_mem_cons.mpr ⟨xCt_ok_33, List.forall_mem_cons.mpr ⟨xCt_ok_34, List.forall_mem_cons.mpr ⟨xCt_ok_35, List.forall_mem_cons.mpr ⟨xCt_ok_36, List.forall_mem_cons.mpr ⟨xCt_ok_37, List.forall_mem_cons.mpr ⟨xCt_ok_38, List.forall_mem_cons.mpr ⟨xCt_ok_39, List.forall_mem_cons.mpr ⟨xCt_ok_40, List.forall_mem_cons.mpr ⟨xCt_ok_41, List.forall_mem_cons.mpr ⟨xCt_ok_42, List.forall_mem_cons.mpr ⟨xCt_ok_43, List.forall_mem_cons.mpr ⟨xCt_ok_44, List.forall_mem_cons.mpr ⟨xCt_ok_45, List.forall_mem_cons.mpr ⟨xCt_ok_46, List.forall_mem_cons.mpr ⟨xCt_ok_47, List.forall_mem_cons.mpr ⟨xCt_ok_48, List.forall_mem_cons.mpr ⟨xCt_ok_49, List.forall_mem_cons.mpr ⟨xCt_ok_50, List.forall_mem_cons.mpr ⟨xCt_ok_51, List.forall_mem_cons.mpr ⟨xCt_ok_52, List.forall_mem_cons.mpr ⟨xCt_ok_53, List.forall_mem_cons.mpr ⟨xCt_ok_54, List.forall_mem_cons.mpr ⟨xCt_ok_55, List.forall_mem_cons.mpr ⟨xCt_ok_56, List.forall_mem_cons.mpr ⟨xCt_ok_57, List.forall_mem_cons.mpr ⟨xCt_ok_58, List.forall_mem_cons.mpr ⟨xCt_ok_59, List.forall_mem_cons.mpr ⟨xCt_ok_60, List.forall_mem_cons.mpr ⟨xCt_ok_61, List.forall_mem_cons.mpr ⟨xCt_ok_62, List.forall_mem_cons.mpr ⟨xCt_ok_63, List.forall_mem_cons.mpr ⟨xCt_ok_64, List.forall_mem_cons.mpr ⟨xCt_ok_65, List.forall_mem_cons.mpr ⟨xCt_ok_66, List.forall_mem_cons.mpr ⟨xCt_ok_67, List.forall_mem_cons.mpr ⟨xCt_ok_68, List.forall_mem_cons.mpr ⟨xCt_ok_69, List.forall_mem_cons.mpr ⟨xCt_ok_70, List.forall_mem_cons.mpr ⟨xCt_ok_71, List.forall_mem_cons.mpr ⟨xCt_ok_72, fun _ h => absurd h List.not_mem_nil⟩⟩⟩⟩⟩⟩⟩⟩⟩⟩⟩⟩⟩⟩⟩⟩⟩⟩⟩⟩⟩⟩⟩⟩⟩⟩⟩⟩⟩⟩⟩⟩⟩⟩⟩⟩⟩⟩⟩⟩⟩⟩⟩⟩⟩⟩⟩⟩⟩⟩⟩⟩⟩⟩⟩⟩⟩⟩⟩⟩⟩⟩⟩⟩⟩⟩⟩⟩⟩⟩⟩⟩⟩
end
section
/-! ===== what the pure machine computes, the machine does ===== -/
def xA (Bs : Nat) : Nat → Prop := fun q => Bs ≤ q
def xtys (cy : Nat → ClassId) : List (ClassId × FieldType) := [(cy 7, .int), (cy 8, .char), (cy 9, .boolean), (cy 10, .object RX0), (cy 11, .object RX2)]
def xfv (kd : Nat) (r : Nat → Option Nat) (v : Nat → Int32) : Nat → Value := fun k => if xisR kd k = true then va_rf (r k) else .int (v k)
def xat (cy : Nat → ClassId) (D : va_G) (S : xSh) (V : xV) (a : Nat) (H : Heap) : Prop :=
  (1 ≤ xkd S a → xkd S a ≤ 6 → t_OB a (D.1 (xkd S a - 1)) (xN (xkd S a)) (D.2 (xkd S a - 1)) H (xfv (xkd S a) (xrf S a) (V a))) ∧
  (7 ≤ xkd S a → xkd S a ≤ 9 → H[a]? = some (arrV (cy (xkd S a)) (xln S a) (fun j => .int (V a j)))) ∧
  (10 ≤ xkd S a → xkd S a ≤ 11 → H[a]? = some (arrV (cy (xkd S a)) (xln S a) (fun j => va_rf (xrf S a j))))
/-- the own cells -/
def xP (cy : Nat → ClassId) (D : va_G) (Bs : Nat) (S : xSh) (V : xV) (H : Heap) : Prop :=
  H.size = S.2.1 ∧ ∀ a : Nat, (1 ≤ xkd S a → xkd S a ≤ 11 → Bs ≤ a ∧ a < S.2.1) ∧ xat cy D S V a H
/-- the cells that were there before: read only -/
def xEx (Bs : Nat) (S : xSh) (V : xV) (U : State) (H : Heap) : Prop := ∀ a : Nat,
  (xkd S a = 14 → va_T .int a (xln S a) (fun j => .int (V a j)) (xA Bs) U H) ∧
  (xkd S a = 12 → va_T .byte a (xln S a) (fun j => .int (V a j)) (xA Bs) U H) ∧
  (xkd S a = 13 → va_O "java/lang/String" a (xA Bs) U H ∧ va_OF "java/lang/String" "value" "[B" (va_rf (xrf S a 0)) a (xA Bs) U H ∧ va_OF "java/lang/String" "coder" "B" (.int (V a 1)) a (xA Bs) U H)
/-- statics, the text, the links of nest mates -/
def xSo (Bs : Nat) (E : Nat × Nat × Nat) (U : State) (H : Heap) : Prop :=
  va_Z "TurnSlots" "LEAST_N" "[I" (.ref E.1) (xA Bs) U H ∧ va_Z "TurnSlots" "GREATEST_N" "[I" (.ref E.2.1) (xA Bs) U H ∧ True ∧
  True ∧ va_AO RX0 U ∧ va_AO RX2 U ∧ ∀ w ∈ xNw, va_Nw w U
theorem xEx.moved {Bs : Nat} {S : xSh} {V : xV} {u U : State} {H : Heap} (hvm : u.vm.Alike U.vm) (h : xEx Bs S V u H) : xEx Bs S V U H := fun a =>
  ⟨fun k => ((h a).1 k).moved hvm, fun k => ((h a).2.1 k).moved hvm, fun k => ⟨((h a).2.2 k).1.moved hvm, va_OF.moved hvm ((h a).2.2 k).2.1, va_OF.moved hvm ((h a).2.2 k).2.2⟩⟩
theorem xEx.kept {Bs : Nat} {S : xSh} {V : xV} {U : State} {H H1 : Heap} (h : xEx Bs S V U H) (hq : ∀ a : Nat, a < H.size → ¬ xA Bs a → H1[a]? = H[a]?) : xEx Bs S V U H1 := fun a =>
  ⟨fun k => ((h a).1 k).kept hq, fun k => ((h a).2.1 k).kept hq, fun k => ⟨((h a).2.2 k).1.kept hq, ((h a).2.2 k).2.1.kept hq, ((h a).2.2 k).2.2.kept hq⟩⟩
theorem xSo.same {Bs : Nat} {E : Nat × Nat × Nat} {u U : State} {H : Heap} (hvm : U.vm = u.vm) (h : xSo Bs E u H) : xSo Bs E U H := by
  have ha : u.vm.Alike U.vm := by rw [hvm]; exact Vm.Alike.refl u.vm
  obtain ⟨h1, h2, h3, h4, h5, h6, h7⟩ := h
  refine ⟨h1.moved ha, h2.moved ha, h3, h4, h5.moved ha, h6.moved ha, fun w hw => ?_⟩
  rcases xNw_kind w hw with ⟨_, _, _, _, rfl⟩ | ⟨_, _, _, _, _, _, rfl⟩
  · exact va_Nw.same rfl hvm.symm (h7 _ hw)
  · exact va_Nw.same rfl hvm.symm (h7 _ hw)
theorem xSo.warm {Bs : Nat} {E : Nat × Nat × Nat} {s U : State} {H : Heap} (hW : s.WarmedH U.vm) (h : xSo Bs E s H) : xSo Bs E U H := by
  obtain ⟨h1, h2, h3, h4, h5, h6, h7⟩ := h
  refine ⟨h1.moved hW.alike, h2.moved hW.alike, h3, h4, h5.moved hW.alike, h6.moved hW.alike, fun w hw => ?_⟩
  rcases xNw_kind w hw with ⟨_, _, _, _, rfl⟩ | ⟨_, _, _, _, _, _, rfl⟩
  · exact va_Nw.warmM hW (h7 _ hw)
  · exact va_Nw.warmF hW (h7 _ hw)
theorem xSo.kept {Bs : Nat} {E : Nat × Nat × Nat} {U : State} {H H1 : Heap} (h : xSo Bs E U H) (hq : ∀ a : Nat, a < H.size → ¬ xA Bs a → H1[a]? = H[a]?) : xSo Bs E U H1 :=
  ⟨h.1.kept hq, h.2.1.kept hq, h.2.2.1, h.2.2.2⟩
/-- the whole picture at a state -/
def xPic (cy : Nat → ClassId) (D : va_G) (Bs : Nat) (E : Nat × Nat × Nat) (S : xSh) (V : xV) (U : State) : Prop :=
  xP cy D Bs S V U.heap ∧ va_K D vwCl (xtys cy) U ∧ xEx Bs S V U U.heap ∧ xSo Bs E U U.heap ∧ Bs ≤ U.heap.size
def xQ (cy : Nat → ClassId) (D : va_G) (Bs : Nat) (E : Nat × Nat × Nat) (r : Option Value × xSh × xV) : Array Value → State → Outcome → State → Prop := fun _ st oc t =>
  oc = .returned r.1 ∧ xPic cy D Bs E r.2.1 r.2.2 t ∧ va_F (xA Bs) st t
def xrm (h mc ms : Nat) : Room := { frames := h, cells := mc, slots := ms, locals := 34 * h }
def xMet (l : Launch) (cy : Nat → ClassId) (D : va_G) (Bs : Nat) (E : Nat × Nat × Nat) (y : xM) (as : List Value) (S : xSh) (V : xV) (r : Option Value × xSh × xV) : Prop :=
  Met l y.1 (xwsOf y) (xrm (xht y) (r.2.1.2.1 - S.2.1) (r.2.1.2.2 - S.2.2)) (va_Pc as (xPic cy D Bs E S V)) (xQ cy D Bs E r) (r.2.1.2.1 - S.2.1) (r.2.1.2.2 - S.2.2) (xA Bs)
/-! the locals -/
def xlv (ls : List (Option Value)) : List (Nat × Value) := (List.range ls.length).filterMap (fun i => (xlocAt ls i).map (fun v => (i, v)))
theorem xlocAt_iff {ls : List (Option Value)} {i : Nat} {v : Value} : xlocAt ls i = some v ↔ ls[i]? = some (some v) := by
  unfold xlocAt
  cases h : ls[i]? with
  | none => simp
  | some o => cases o <;> simp
theorem xlv_mem {ls : List (Option Value)} {i : Nat} {v : Value} : (i, v) ∈ xlv ls ↔ ls[i]? = some (some v) := by
  unfold xlv
  rw [List.mem_filterMap]
  constructor
  · rintro ⟨j, -, h⟩
    cases hv : xlocAt ls j with
    | none => rw [hv] at h; cases h
    | some w =>
      rw [hv] at h
      cases h
      exact xlocAt_iff.mp hv
  · intro h
    refine ⟨i, List.mem_range.mpr ?_, by rw [xlocAt_iff.mpr h]; rfl⟩
    exact (List.getElem?_eq_some_iff.mp h).1
def xLo (lsA : Array Slot) (n : Nat) (ls : List (Option Value)) : Prop := ls.length = n ∧ lv_has lsA n (xlv ls)
theorem xLo_at {lsA : Array Slot} {n : Nat} {ls : List (Option Value)} (h : xLo lsA n ls) {i : Nat} {v : Value} (hv : xlocAt ls i = some v) : lsA[i]? = some (.val v) := h.2.2.2 (i, v) (xlv_mem.mpr (xlocAt_iff.mp hv))
theorem xclr_none {ls : List (Option Value)} {j : Nat} (h : xlocAt ls j = none) : xclr ls (j + 1) = ls := by
  show (match xlocAt ls j with | some v => if v.category = 2 then ls.set j none else ls | none => ls) = ls
  rw [h]
theorem xclr_some {ls : List (Option Value)} {j : Nat} {v : Value} (h : xlocAt ls j = some v) : xclr ls (j + 1) = if v.category = 2 then ls.set j none else ls := by
  show (match xlocAt ls j with | some v => if v.category = 2 then ls.set j none else ls | none => ls) = _
  rw [h]
theorem xclr_len (ls : List (Option Value)) (i : Nat) : (xclr ls i).length = ls.length := by
  cases i with
  | zero => rfl
  | succ j =>
    cases hv : xlocAt ls j with
    | none => rw [xclr_none hv]
    | some v =>
      rw [xclr_some hv]
      split <;> simp
theorem xclr_at {ls : List (Option Value)} {i j : Nat} {w : Value} (h : (xclr ls i)[j]? = some (some w)) : ls[j]? = some (some w) ∧ (j + 1 = i → ¬ w.category = 2) := by
  cases i with
  | zero => exact ⟨h, fun e => by omega⟩
  | succ k =>
    cases hk : xlocAt ls k with
    | none =>
      rw [xclr_none hk] at h
      refine ⟨h, fun e => ?_⟩
      have e2 : j = k := by omega
      subst e2
      have h2 : ls[j]? = some (some w) := h
      rw [xlocAt_iff.mpr h2] at hk
      cases hk
    | some v =>
      rw [xclr_some hk] at h
      have h' : (if v.category = 2 then ls.set k none else ls)[j]? = some (some w) := h
      by_cases hc : v.category = 2
      · rw [if_pos hc] at h'
        by_cases hj : k = j
        · subst hj
          rw [List.getElem?_set_self'] at h'
          cases hq : ls[k]? with
          | none => rw [hq] at h'; cases h'
          | some o => rw [hq] at h'; cases h'
        · rw [List.getElem?_set_ne hj] at h'
          exact ⟨h', fun e => absurd (by omega) hj⟩
      · rw [if_neg hc] at h'
        refine ⟨h', fun e => ?_⟩
        have e2 : j = k := by omega
        subst e2
        rw [xlocAt_iff.mpr h'] at hk
        cases hk
        exact hc
theorem xLo_st1 {lsA ls' : Array Slot} {n i : Nat} {ls : List (Option Value)} {v : Value} (h : xLo lsA n ls) (h' : lv_has ls' n ((i, v) :: (xlv ls).filter (fun q => !(q.1 == i) && !(q.1 + 1 == i && q.2.category == 2)))) : xLo ls' n (xst1 ls i v) := by
  refine ⟨by unfold xst1; rw [List.length_set, xclr_len]; exact h.1, h'.1, h'.2.1, fun q hq => h'.2.2 q ?_⟩
  obtain ⟨j, w⟩ := q
  have h1 := xlv_mem.mp hq
  unfold xst1 at h1
  by_cases hj : i = j
  · subst hj
    rw [List.getElem?_set_self'] at h1
    cases hq2 : (xclr ls i)[i]? with
    | none => rw [hq2] at h1; cases h1
    | some o =>
      rw [hq2] at h1
      cases h1
      exact List.mem_cons_self
  · rw [List.getElem?_set_ne hj] at h1
    obtain ⟨h2, h3⟩ := xclr_at h1
    refine List.mem_cons_of_mem _ (List.mem_filter.mpr ⟨xlv_mem.mpr h2, ?_⟩)
    by_cases hc : j + 1 = i
    · have := h3 hc
      simp [Ne.symm hj, this]
    · simp [Ne.symm hj, hc]
theorem xLo_st2 {lsA ls' : Array Slot} {n i : Nat} {ls : List (Option Value)} {v : Value} (h : xLo lsA n ls) (h' : lv_has ls' n ((i, v) :: (xlv ls).filter (fun q => !(q.1 == i) && (!(q.1 == i + 1) && !(q.1 + 1 == i && q.2.category == 2))))) : xLo ls' n (xst2 ls i v) := by
  refine ⟨by unfold xst2; rw [List.length_set, List.length_set, xclr_len]; exact h.1, h'.1, h'.2.1, fun q hq => h'.2.2 q ?_⟩
  obtain ⟨j, w⟩ := q
  have h1 := xlv_mem.mp hq
  unfold xst2 at h1
  by_cases hj1 : i + 1 = j
  · subst hj1
    rw [List.getElem?_set_self'] at h1
    cases hq2 : ((xclr ls i).set i (some v))[i + 1]? with
    | none => rw [hq2] at h1; cases h1
    | some o => rw [hq2] at h1; cases h1
  · rw [List.getElem?_set_ne hj1] at h1
    by_cases hj : i = j
    · subst hj
      rw [List.getElem?_set_self'] at h1
      cases hq2 : (xclr ls i)[i]? with
      | none => rw [hq2] at h1; cases h1
      | some o =>
        rw [hq2] at h1
        cases h1
        exact List.mem_cons_self
    · rw [List.getElem?_set_ne hj] at h1
      obtain ⟨h2, h3⟩ := xclr_at h1
      refine List.mem_cons_of_mem _ (List.mem_filter.mpr ⟨xlv_mem.mpr h2, ?_⟩)
      by_cases hc : j + 1 = i
      · have := h3 hc
        simp [Ne.symm hj, Ne.symm hj1, this]
      · simp [Ne.symm hj, Ne.symm hj1, hc]
theorem xargs_len (vs : List Value) : (xargs vs).length = (lg_sl vs).length := by
  induction vs with
  | nil => rfl
  | cons v vs ih =>
    unfold xargs lg_sl
    rw [List.flatMap_cons]
    by_cases h : v.category = 2
    · rw [if_pos h, if_pos h]; simp only [List.length_cons, List.length_append, ih, List.length_nil, lg_sl]; omega
    · rw [if_neg h, if_neg h]; simp only [List.length_cons, List.length_append, ih, List.length_nil, lg_sl]; omega
theorem xargs_at : ∀ (vs : List Value) (b i : Nat) (v : Value), (xargs vs)[i]? = some (some v) → (b + i, v) ∈ lv_args b vs := by
  intro vs
  induction vs with
  | nil => intro b i v h; simp [xargs] at h
  | cons w vs ih =>
    intro b i v h
    unfold xargs at h
    unfold lv_args
    by_cases hc : w.category = 2
    · rw [if_pos hc] at h
      rw [if_pos hc]
      match i, h with
      | 0, h => simp at h; subst h; exact List.mem_cons_self
      | 1, h => simp at h
      | i + 2, h =>
        have h2 : (xargs vs)[i]? = some (some v) := by simpa using h
        have := ih (b + 2) i v h2
        rw [show b + (i + 2) = b + 2 + i by omega]
        exact List.mem_cons_of_mem _ this
    · rw [if_neg hc] at h
      rw [if_neg hc]
      match i, h with
      | 0, h => simp at h; subst h; exact List.mem_cons_self
      | i + 1, h =>
        have h2 : (xargs vs)[i]? = some (some v) := by simpa using h
        have := ih (b + 1) i v h2
        rw [show b + (i + 1) = b + 1 + i by omega]
        exact List.mem_cons_of_mem _ this
theorem xLo_entry (vs : List Value) {n : Nat} (h : (xargs vs).length ≤ n) : xLo ((lg_sl vs ++ List.replicate (n - (lg_sl vs).length) Slot.unset).toArray) n (xlocs n vs) := by
  have hl := lv_entry vs (n := n) (by rw [← xargs_len]; exact h)
  refine ⟨by unfold xlocs; rw [List.length_append, List.length_replicate]; omega, hl.1, hl.2.1, fun q hq => hl.2.2 q ?_⟩
  obtain ⟨j, w⟩ := q
  have h1 := xlv_mem.mp hq
  unfold xlocs at h1
  by_cases hj : j < (xargs vs).length
  · rw [List.getElem?_append_left hj] at h1
    have := xargs_at vs 0 j w h1
    rwa [Nat.zero_add] at this
  · rw [List.getElem?_append_right (by omega), List.getElem?_replicate] at h1
    split at h1
    · cases h1
    · cases h1
end
section
/-! ===== a step of the pure machine is a step of the machine ===== -/
/-- what holds in a method, from its entry on -/
def xCx (cy : Nat → ClassId) (D : va_G) (Bs : Nat) (E : Nat × Nat × Nat) (p : Program) (R : Room) (s : State) (m : MethodId) (args : Array Value) (meth : Method) (c : Code) (mm : xM) : Prop :=
  p.tables.exec = Jvm.exec ∧ c.code = mm.2.1 ∧ c.maxLocals = mm.2.2.1 ∧ s.vm.findClass (xcn (xown mm)) = some m.cls ∧ (mm.1.name = "<init>" → meth.name = mm.1.name) ∧ (∀ w ∈ xws0, w.before args s = true) ∧ va_K D vwCl (xtys cy) s ∧ xSo Bs E s s.heap ∧ Bs ≤ s.heap.size ∧ xht mm ≤ R.frames ∧ 34 * xht mm ≤ R.locals
section XST
variable {cy : Nat → ClassId} {D : va_G} {Bs : Nat} {E : Nat × Nat × Nat} {p : Program} {l : Launch} {e : Env} {R : Room} {s : State} {m : MethodId} {args : Array Value} {below : List Frame} {meth : Method} {c : Code} {Q : State → Prop} {mm : xM} {T0 Z0 : Nat}
theorem xCx.hx (h : xCx cy D Bs E p R s m args meth c mm) : p.tables.exec = Jvm.exec := h.1
theorem xCx.hb (h : xCx cy D Bs E p R s m args meth c mm) : c.code = mm.2.1 := h.2.1
theorem xCx.hml (h : xCx cy D Bs E p R s m args meth c mm) : c.maxLocals = mm.2.2.1 := h.2.2.1
theorem xCx.hown (h : xCx cy D Bs E p R s m args meth c mm) : s.vm.findClass (xcn (xown mm)) = some m.cls := h.2.2.2.1
theorem xCx.hnm (h : xCx cy D Bs E p R s m args meth c mm) : mm.1.name = "<init>" → meth.name = mm.1.name := h.2.2.2.2.1
theorem xCx.hts (h : xCx cy D Bs E p R s m args meth c mm) : ∀ w ∈ xws0, w.before args s = true := h.2.2.2.2.2.1
theorem xCx.hK (h : xCx cy D Bs E p R s m args meth c mm) : va_K D vwCl (xtys cy) s := h.2.2.2.2.2.2.1
theorem xCx.hO (h : xCx cy D Bs E p R s m args meth c mm) : xSo Bs E s s.heap := h.2.2.2.2.2.2.2.1
theorem xCx.hB (h : xCx cy D Bs E p R s m args meth c mm) : Bs ≤ s.heap.size := h.2.2.2.2.2.2.2.2.1
theorem xCx.hfr (h : xCx cy D Bs E p R s m args meth c mm) : xht mm ≤ R.frames := h.2.2.2.2.2.2.2.2.2.1
theorem xCx.hlo (h : xCx cy D Bs E p R s m args meth c mm) : 34 * xht mm ≤ R.locals := h.2.2.2.2.2.2.2.2.2.2
end XST
/-- the machine, at this place of the method with cells as S and V say, comes to Q -/
def xG (cy : Nat → ClassId) (D : va_G) (Bs : Nat) (p : Program) (l : Launch) (e : Env) (R : Room) (s : State) (m : MethodId) (args : Array Value) (below : List Frame) (meth : Method) (c : Code) (Q : State → Prop) (n T0 Z0 : Nat) (pc : Nat) (ls : List (Option Value)) (st : List Value) (S : xSh) (V : xV) : Prop :=
  ∀ (H : Heap) (locs : List Loc) (lsA : Array Slot), xP cy D Bs S V H → va_S (xA Bs) s.heap H locs → xEx Bs S V s s.heap → xLo lsA n ls → W p l e R s m args below meth c H locs (S.2.1 - T0) (S.2.2 - Z0) Q (F0 m pc lsA st)
/-! kinds of objects -/
theorem xisR_ty {kd k : Nat} (h : xisR kd k = true) : (∃ t, xty kd k = .array t) ∨ (∃ t, xty kd k = .object t) := by
  unfold xisR at h
  split at h
  · rename_i t ht; exact Or.inl ⟨_, ht⟩
  · rename_i t ht; exact Or.inr ⟨_, ht⟩
  · cases h
theorem xkf (kd : Nat) (h1 : 1 ≤ kd) (h6 : kd ≤ 5) : vwCl[kd - 1]? = some (xcn (kd - 1), xT kd, xN kd) ∧ (∀ w ∈ u_ws (xcn (kd - 1)) (xT kd) (xN kd), w ∈ xws0) ∧ (∀ k, k < xN kd → parseFieldDescriptor (xT kd k).2.2.1 = some (xty kd k)) ∧ (∀ a, a < xN kd → ∀ b, b < xN kd → a ≠ b → (xT kd a).2.1 ≠ (xT kd b).2.1) ∧ (∀ k, k < xN kd → (xT kd k).2.2.2 = xisR kd k) ∧ (∀ k, k < xN kd → (xT kd k).1 = xcn (kd - 1)) ∧
    (∀ k, k < xN kd → xisR kd k = false → xty kd k = .int ∨ (xty kd k = .boolean ∧ xisZ kd k = true)) := by
  have r : kd = 1 ∨ kd = 2 ∨ kd = 3 ∨ kd = 4 ∨ kd = 5 := by omega
  rcases r with rfl | rfl | rfl | rfl | rfl
  · exact ⟨rfl, xw_lay_0, tyX0_ok, nmX0, by decide +kernel, by decide +kernel, by decide +kernel⟩
  · exact ⟨rfl, xw_lay_1, tyX1_ok, nmX1, by decide +kernel, by decide +kernel, by decide +kernel⟩
  · exact ⟨rfl, xw_lay_2, tyX2_ok, nmX2, by decide +kernel, by decide +kernel, by decide +kernel⟩
  · exact ⟨rfl, xw_lay_3, tyX3_ok, nmX3, by decide +kernel, by decide +kernel, by decide +kernel⟩
  · exact ⟨rfl, xw_lay_4, tyX4_ok, nmX4, by decide +kernel, by decide +kernel, by decide +kernel⟩
/-! stores -/
theorem xP_upd {cy : Nat → ClassId} {D : va_G} {Bs : Nat} {S S' : xSh} {V V' : xV} {H H' : Heap} {a : Nat} (hP : xP cy D Bs S V H) (e2 : H'.size = H.size) (e3 : ∀ q : Nat, q ≠ a → H'[q]? = H[q]?) (hT : S'.2.1 = S.2.1) (hk : xkd S' a = xkd S a) (ho : ∀ b, b ≠ a → S'.1 b = S.1 b ∧ V' b = V b) (ha : xat cy D S' V' a H') : xP cy D Bs S' V' H' := by
  refine ⟨by rw [e2, hT]; exact hP.1, fun b => ?_⟩
  by_cases hb : b = a
  · subst hb
    refine ⟨?_, ha⟩
    rw [hk, hT]
    exact (hP.2 b).1
  · obtain ⟨h1, h2⟩ := ho b hb
    have k1 : xkd S' b = xkd S b := by unfold xkd; rw [h1]
    have k2 : xln S' b = xln S b := by unfold xln; rw [h1]
    have k3 : xrf S' b = xrf S b := by funext q; unfold xrf; rw [h1]
    unfold xat
    rw [k1, k2, k3, h2, hT, e3 b hb]
    obtain ⟨g1, g2, g3, g4⟩ := hP.2 b
    exact ⟨g1, fun x y => (g2 x y).kept (e3 b hb), g3, g4⟩
theorem xEx_upd {Bs : Nat} {S S' : xSh} {V V' : xV} {U : State} {H : Heap} {a : Nat} (hE : xEx Bs S V U H) (hk : xkd S' a ≤ 11) (ho : ∀ b, b ≠ a → S'.1 b = S.1 b ∧ V' b = V b) : xEx Bs S' V' U H := by
  intro b
  by_cases hb : b = a
  · subst hb
    exact ⟨fun h => by omega, fun h => by omega, fun h => by omega⟩
  · obtain ⟨h1, h2⟩ := ho b hb
    have k1 : xkd S' b = xkd S b := by unfold xkd; rw [h1]
    have k2 : xln S' b = xln S b := by unfold xln; rw [h1]
    have k3 : xrf S' b = xrf S b := by funext q; unfold xrf; rw [h1]
    rw [k1, k2, k3, h2]
    exact hE b
theorem xup_o {V : xV} {S : xSh} {a j : Nat} {v : Int32} : ∀ b, b ≠ a → S.1 b = S.1 b ∧ xup V a j v b = V b := fun b hb => ⟨rfl, by funext i; simp [xup, hb]⟩
theorem xrow_o {V : xV} {S : xSh} {a : Nat} {f : Nat → Int32} : ∀ b, b ≠ a → S.1 b = S.1 b ∧ xrow V a f b = V b := fun b hb => ⟨rfl, by simp [xrow, hb]⟩
theorem xup_s (V : xV) (a j : Nat) (v : Int32) : xup V a j v a = upd (V a) j v := by funext i; simp [xup, upd]
theorem xsetr_o {V : xV} {S : xSh} {a k : Nat} {r : Option Nat} : ∀ b, b ≠ a → (xsetr S a k r).1 b = S.1 b ∧ V b = V b := fun b hb => ⟨by simp [xsetr, hb], rfl⟩
theorem xsetr_kd (S : xSh) (a k : Nat) (r : Option Nat) (b : Nat) : xkd (xsetr S a k r) b = xkd S b := by unfold xkd xsetr; by_cases h : b = a <;> simp [h]
theorem xsetr_ln (S : xSh) (a k : Nat) (r : Option Nat) (b : Nat) : xln (xsetr S a k r) b = xln S b := by unfold xln xsetr; by_cases h : b = a <;> simp [h]
theorem xsetr_s (S : xSh) (a k : Nat) (r : Option Nat) : xrf (xsetr S a k r) a = va_up (xrf S a) k r := by funext j; simp [xrf, xsetr, va_up]
theorem xnew_kd (S : xSh) (kd n z b : Nat) : xkd (xnew S kd n z) b = if b = S.2.1 then kd else xkd S b := by unfold xkd xnew; by_cases h : b = S.2.1 <;> simp [h]
theorem xnew_o {V : xV} {S : xSh} {kd n z : Nat} {f : Nat → Int32} : ∀ b, b ≠ S.2.1 → (xnew S kd n z).1 b = S.1 b ∧ xrow V S.2.1 f b = V b := fun b hb => ⟨by simp [xnew, hb], by simp [xrow, hb]⟩
theorem xP_new {cy : Nat → ClassId} {D : va_G} {Bs : Nat} {S : xSh} {V : xV} {H H' : Heap} {kd n z : Nat} {f : Nat → Int32} (hP : xP cy D Bs S V H) (hB : Bs ≤ H.size) (e2 : H'.size = H.size + 1) (e3 : ∀ q : Nat, q < H.size → H'[q]? = H[q]?) (ha : xat cy D (xnew S kd n z) (xrow V S.2.1 f) S.2.1 H') : xP cy D Bs (xnew S kd n z) (xrow V S.2.1 f) H' := by
  have hsz := hP.1
  refine ⟨by rw [e2, hsz]; rfl, fun b => ?_⟩
  by_cases hb : b = S.2.1
  · subst hb
    refine ⟨fun _ _ => ⟨by rw [← hsz]; exact hB, Nat.lt_succ_self _⟩, ha⟩
  · obtain ⟨h1, h2⟩ := xnew_o (V := V) (S := S) (kd := kd) (n := n) (z := z) (f := f) b hb
    have k1 : xkd (xnew S kd n z) b = xkd S b := by unfold xkd; rw [h1]
    have k2 : xln (xnew S kd n z) b = xln S b := by unfold xln; rw [h1]
    have k3 : xrf (xnew S kd n z) b = xrf S b := by funext q; unfold xrf; rw [h1]
    unfold xat
    rw [k1, k2, k3, h2]
    obtain ⟨g1, g2, g3, g4⟩ := hP.2 b
    have lt : 1 ≤ xkd S b → xkd S b ≤ 11 → b < H.size := fun x y => by rw [hsz]; exact (g1 x y).2
    refine ⟨fun x y => ⟨(g1 x y).1, Nat.lt_succ_of_lt (g1 x y).2⟩, fun x y => (g2 x y).kept (e3 b (lt x (by omega))), fun x y => ?_, fun x y => ?_⟩
    · rw [e3 b (lt (by omega) (by omega))]; exact g3 x y
    · rw [e3 b (lt (by omega) (by omega))]; exact g4 x y
end
section
/-! ===== the instructions that read or write cells ===== -/
section XOP
variable {cy : Nat → ClassId} {D : va_G} {Bs : Nat} {E : Nat × Nat × Nat} {p : Program} {l : Launch} {e : Env} {R : Room} {s : State} {m : MethodId} {args : Array Value} {below : List Frame} {meth : Method} {c : Code} {Q : State → Prop} {mm : xM} {T0 Z0 : Nat} {pc : Nat} {ls : List (Option Value)} {st : List Value} {S : xSh} {V : xV}
theorem g_getfield (hC : xCx cy D Bs E p R s m args meth c mm) {x kd j a : Nat} (hf : xassoc xFt (xkey mm x) = some (kd, j)) (hk : xkd S a = kd) (hd : decode mm.2.1 pc = .ok (.getfield x, 3)) (kk : xG cy D Bs p l e R s m args below meth c Q mm.2.2.1 T0 Z0 (pc + 3) ls ((if xisR kd j = true then va_rf (xrf S a j) else .int (V a j)) :: st) S V) : xG cy D Bs p l e R s m args below meth c Q mm.2.2.1 T0 Z0 pc ls (.ref a :: st) S V := by
  obtain ⟨hcase, hj, hw⟩ := xFt_ok _ (xassoc_mem hf)
  dsimp only at hcase hj hw
  intro H locs lsA hP hS hE hl
  have hlink := hC.hts _ hw
  obtain ⟨h1, h6⟩ := hcase
  · obtain ⟨hc, hin, -⟩ := xkf kd h1 (by omega)
    subst hk
    obtain ⟨cell, q1, q2, q3, q4⟩ := (hP.2 a).2.1 h1 (by omega)
    obtain ⟨hS', hfc, kC, hkC, hkind⟩ := hC.hK.1 _ _ hc
    obtain ⟨cf, kf, fi, f, hi, hsl⟩ := hS' j hj
    exact W.getf hC.hx hC.hb hC.hown hlink hi (u_facts hfc hkC (u_lays hC.hts hin hj) hi).1 q1 (by rw [q3]; exact fun h => by cases h) (by rw [hsl]; exact q4 j hj) rfl rfl hd (kk H locs lsA hP hS hE hl)
theorem g_putI (hC : xCx cy D Bs E p R s m args meth c mm) {x kd j a : Nat} {v : Int32} (hf : xassoc xFt (xkey mm x) = some (kd, j)) (hk : xkd S a = kd) (h6 : kd ≤ 6) (hR : xisR kd j = false) (hZ : xisZ kd j = true → v = 0 ∨ v = 1) (hd : decode mm.2.1 pc = .ok (.putfield x, 3)) (kk : xG cy D Bs p l e R s m args below meth c Q mm.2.2.1 T0 Z0 (pc + 3) ls st S (xup V a j v)) : xG cy D Bs p l e R s m args below meth c Q mm.2.2.1 T0 Z0 pc ls (.int v :: .ref a :: st) S V := by
  obtain ⟨hcase, hj, hw⟩ := xFt_ok _ (xassoc_mem hf)
  dsimp only at hcase hj hw
  intro H locs lsA hP hS hE hl
  have hlink := hC.hts _ hw
  have h1 : 1 ≤ kd := by omega
  obtain ⟨hc, hin, hty, hnm, hfn, hdc, hkind0⟩ := xkf kd h1 (by omega)
  subst hk
  have hat := (hP.2 a).2.1 h1 (by omega)
  obtain ⟨cell, q1, q2, q3, q4⟩ := hat
  obtain ⟨hS', hfc, kC, hkC, hkind⟩ := hC.hK.1 _ _ hc
  obtain ⟨cf, kf, fi, f, hi, hsl⟩ := hS' j hj
  have hap := va_apart (own := xcn (xkd S a - 1)) hC.hts hin _ hty hnm hC.hK hc
  have hlay := hC.hts _ (hin _ (u_in_lay hj))
  unfold u_lay at hlay
  rw [if_neg (by rw [hfn j hj, hR]; decide)] at hlay
  have hst := (u_facts hfc hkC (u_lays hC.hts hin hj) hi).1
  have hnf : narrow (xty (xkd S a) j) (.int v) = .int v ∧ fits (xty (xkd S a) j) (.int v) = true := by
    rcases hkind0 j hj hR with ht | ⟨ht, hz⟩
    · rw [ht]; exact ⟨rfl, rfl⟩
    · rw [ht]
      rcases hZ hz with rfl | rfl
      · exact ⟨by decide, by decide⟩
      · exact ⟨by decide, by decide⟩
  have h6' := u_store hfc hkC hkind hlay hi (hty j hj) hnf.1 hnf.2
  refine W.putK hC.hx hC.hb (f := f) ⟨hC.hown, hlink, ⟨_, _, _, hi⟩, hst⟩ (by rw [q2]; exact h6') q1 q3 (by rw [hsl]; exact k2_hasslot (q4 j hj)) rfl rfl hd fun H' e1 e2 e3 => ?_
  rw [hsl] at e1 ⊢
  have hr := (hP.2 a).1 h1 (by omega)
  refine kk H' _ lsA (xP_upd hP e2 e3 rfl rfl xup_o ⟨fun _ _ => ?_, fun h7 => by omega, fun h10 => by omega⟩) (hS.put e2 e3 hr.1) (xEx_upd hE (by omega) xup_o) hl
  refine t_OB.to (V := updV (xfv (xkd S a) (xrf S a) (V a)) j (.int v)) ⟨_, e1, q2, q3, t_set q4 hap hj (.int v)⟩ (fun k hk => ?_)
  rw [xup_s]
  unfold updV xfv upd
  by_cases hkj : k = j
  · subst hkj; simp [hR]
  · simp [hkj]
theorem g_putR (hC : xCx cy D Bs E p R s m args meth c mm) {x kd j a v : Nat} (hf : xassoc xFt (xkey mm x) = some (kd, j)) (hk : xkd S a = kd) (h6 : kd ≤ 6) (hR : xisR kd j = true) (hnm : mm.1.name = "<init>") (hown : xown mm + 1 = kd) (hd : decode mm.2.1 pc = .ok (.putfield x, 3)) (kk : xG cy D Bs p l e R s m args below meth c Q mm.2.2.1 T0 Z0 (pc + 3) ls st (xsetr S a j (some v)) V) : xG cy D Bs p l e R s m args below meth c Q mm.2.2.1 T0 Z0 pc ls (.ref v :: .ref a :: st) S V := by
  obtain ⟨hcase, hj, hw⟩ := xFt_ok _ (xassoc_mem hf)
  dsimp only at hcase hj hw
  intro H locs lsA hP hS hE hl
  have hlink := hC.hts _ hw
  have h1 : 1 ≤ kd := by omega
  obtain ⟨hc, hin, hty, hnm2, hfn, hdc, hkind0⟩ := xkf kd h1 (by omega)
  subst hk
  obtain ⟨cell, q1, q2, q3, q4⟩ := (hP.2 a).2.1 h1 (by omega)
  obtain ⟨hS', hfc, kC, hkC, hkind⟩ := hC.hK.1 _ _ hc
  obtain ⟨cf, kf, fi, f, hi, hsl⟩ := hS' j hj
  have hap := va_apart (own := xcn (xkd S a - 1)) hC.hts hin _ hty hnm2 hC.hK hc
  have hlay := hC.hts _ (hin _ (u_in_lay hj))
  unfold u_lay at hlay
  rw [if_pos (by rw [hfn j hj, hR])] at hlay
  have hst := (u_facts hfc hkC (u_lays hC.hts hin hj) hi).1
  have hown2 : xcn (xkd S a - 1) = xcn (xown mm) := by rw [← hown]; rfl
  have hcf : m.cls = cf := by
    obtain ⟨_, _, c', _, _, _, -, -, hf', -, -, -, hown3, -⟩ := Cond.laysFinal_spec hlay
    have e1 : c' = cf := by have := hi.symm.trans hf'; simp at this; exact this.1.symm
    rw [hdc j hj, hown2] at hown3
    rw [← e1]; exact Option.some.inj (hC.hown.symm.trans hown3)
  have hnf : narrow (xty (xkd S a) j) (.ref v) = .ref v ∧ fits (xty (xkd S a) j) (.ref v) = true := by
    rcases xisR_ty hR with ⟨t, ht⟩ | ⟨t, ht⟩
    · rw [ht]; exact ⟨rfl, rfl⟩
    · rw [ht]; exact ⟨rfl, rfl⟩
  have h6' := u_fits hfc hkC hkind (Or.inr hlay) hi (hty j hj) hnf.1 hnf.2
  refine W.putFinK hC.hx hC.hb hC.hown hlink hi hst hcf ((hC.hnm hnm).trans hnm) (by rw [q2]; exact h6') q1 q3 (by rw [hsl]; exact k2_hasslot (q4 j hj)) rfl rfl hd fun H' e1 e2 e3 => ?_
  rw [hsl] at e1 ⊢
  have hr := (hP.2 a).1 h1 (by omega)
  refine kk H' _ lsA (xP_upd hP e2 e3 rfl (xsetr_kd S a j (some v) a) xsetr_o ⟨fun _ _ => ?_, fun h7 => by rw [xsetr_kd] at h7; omega, fun h10 => by rw [xsetr_kd] at h10; omega⟩) (hS.put e2 e3 hr.1) (xEx_upd hE (by rw [xsetr_kd]; omega) xsetr_o) hl
  rw [xsetr_kd]
  refine t_OB.to (V := updV (xfv (xkd S a) (xrf S a) (V a)) j (.ref v)) ⟨_, e1, q2, q3, t_set q4 hap hj (.ref v)⟩ (fun k hk => ?_)
  rw [xsetr_s]
  unfold updV xfv va_up
  by_cases hkj : k = j
  · subst hkj; simp [hR, va_rf]
  · simp [hkj]
theorem xarrT (hC : xCx cy D Bs E p R s m args meth c mm) {kd : Nat} (h7 : 7 ≤ kd) (h11 : kd ≤ 11) : ∃ ty, (kd = 7 → ty = .int) ∧ (kd = 8 → ty = .char) ∧ (kd = 9 → ty = .boolean) ∧ (kd = 10 → ty = .object RX0) ∧ (kd = 11 → ty = .object RX2) ∧ ArrOfT s (cy kd) ty ∧ va_RA s (cy kd) ty := by
  have r : kd = 7 ∨ kd = 8 ∨ kd = 9 ∨ kd = 10 ∨ kd = 11 := by omega
  rcases r with rfl | rfl | rfl | rfl | rfl
  · exact ⟨.int, by simp, by simp, by simp, by simp, by simp, hC.hK.2 0 _ rfl⟩
  · exact ⟨.char, by simp, by simp, by simp, by simp, by simp, hC.hK.2 1 _ rfl⟩
  · exact ⟨.boolean, by simp, by simp, by simp, by simp, by simp, hC.hK.2 2 _ rfl⟩
  · exact ⟨.object RX0, by simp, by simp, by simp, by simp, by simp, hC.hK.2 3 _ rfl⟩
  · exact ⟨.object RX2, by simp, by simp, by simp, by simp, by simp, hC.hK.2 4 _ rfl⟩
theorem g_iaload (hC : xCx cy D Bs E p R s m args meth c mm) {a : Nat} {j : Int32} (hk : xkd S a = 7 ∨ xkd S a = 14) (hi : ¬ (j < 0 ∨ xln S a ≤ j.toNatClampNeg)) (hd : decode mm.2.1 pc = .ok (.iaload, 1)) (kk : xG cy D Bs p l e R s m args below meth c Q mm.2.2.1 T0 Z0 (pc + 1) ls (.int (V a j.toNatClampNeg) :: st) S V) : xG cy D Bs p l e R s m args below meth c Q mm.2.2.1 T0 Z0 pc ls (.int j :: .ref a :: st) S V := by
  intro H locs lsA hP hS hE hl
  rcases hk with hk | hk
  · have h1 := (hP.2 a).2.2.1 (by omega) (by omega)
    rw [hk] at h1
    have hlt : j.toNatClampNeg < xln S a := Nat.not_le.mp fun q => hi (Or.inr q)
    exact W.iald (v := .int (V a j.toNatClampNeg)) hC.hx hC.hb h1 ((hC.hK.2 0 _ rfl).1 _ _) (fun q => by cases q) (by rw [arrV_size]; exact hi) (by rw [arrV_read _ _ hlt]) rfl rfl hd (kk H locs lsA hP hS hE hl)
  · exact va_ti hC.hx hC.hb ((hE a).1 hk) hS hi rfl hd (kk H locs lsA hP hS hE hl)
theorem g_baload (hC : xCx cy D Bs E p R s m args meth c mm) {a : Nat} {j : Int32} (hk : xkd S a = 9 ∨ xkd S a = 12) (hi : ¬ (j < 0 ∨ xln S a ≤ j.toNatClampNeg)) (hd : decode mm.2.1 pc = .ok (.baload, 1)) (kk : xG cy D Bs p l e R s m args below meth c Q mm.2.2.1 T0 Z0 (pc + 1) ls (.int (V a j.toNatClampNeg) :: st) S V) : xG cy D Bs p l e R s m args below meth c Q mm.2.2.1 T0 Z0 pc ls (.int j :: .ref a :: st) S V := by
  intro H locs lsA hP hS hE hl
  rcases hk with hk | hk
  · have h1 := (hP.2 a).2.2.1 (by omega) (by omega)
    rw [hk] at h1
    have hlt : j.toNatClampNeg < xln S a := Nat.not_le.mp fun q => hi (Or.inr q)
    exact W.zald (v := .int (V a j.toNatClampNeg)) hC.hx hC.hb h1 ((hC.hK.2 2 _ rfl).1 _ _) (fun q => by cases q) (by rw [arrV_size]; exact hi) (by rw [arrV_read _ _ hlt]) rfl rfl hd (kk H locs lsA hP hS hE hl)
  · exact va_tb hC.hx hC.hb ((hE a).2.1 hk) hS hi rfl hd (kk H locs lsA hP hS hE hl)
theorem g_caload (hC : xCx cy D Bs E p R s m args meth c mm) {a : Nat} {j : Int32} (hk : xkd S a = 8) (hi : ¬ (j < 0 ∨ xln S a ≤ j.toNatClampNeg)) (hd : decode mm.2.1 pc = .ok (.caload, 1)) (kk : xG cy D Bs p l e R s m args below meth c Q mm.2.2.1 T0 Z0 (pc + 1) ls (.int (V a j.toNatClampNeg) :: st) S V) : xG cy D Bs p l e R s m args below meth c Q mm.2.2.1 T0 Z0 pc ls (.int j :: .ref a :: st) S V := by
  intro H locs lsA hP hS hE hl
  have h1 := (hP.2 a).2.2.1 (by omega) (by omega)
  rw [hk] at h1
  have hlt : j.toNatClampNeg < xln S a := Nat.not_le.mp fun q => hi (Or.inr q)
  exact W.cald (v := .int (V a j.toNatClampNeg)) hC.hx hC.hb h1 ((hC.hK.2 1 _ rfl).1 _ _) (fun q => by cases q) (by rw [arrV_size]; exact hi) (by rw [arrV_read _ _ hlt]) rfl rfl hd (kk H locs lsA hP hS hE hl)
theorem g_aaload (hC : xCx cy D Bs E p R s m args meth c mm) {a : Nat} {j : Int32} (hk : xkd S a = 10 ∨ xkd S a = 11) (hi : ¬ (j < 0 ∨ xln S a ≤ j.toNatClampNeg)) (hd : decode mm.2.1 pc = .ok (.aaload, 1)) (kk : xG cy D Bs p l e R s m args below meth c Q mm.2.2.1 T0 Z0 (pc + 1) ls (va_rf (xrf S a j.toNatClampNeg) :: st) S V) : xG cy D Bs p l e R s m args below meth c Q mm.2.2.1 T0 Z0 pc ls (.int j :: .ref a :: st) S V := by
  intro H locs lsA hP hS hE hl
  have hlt : j.toNatClampNeg < xln S a := Nat.not_le.mp fun q => hi (Or.inr q)
  have h1 := (hP.2 a).2.2.2 (by omega) (by omega)
  rcases hk with hk | hk
  · rw [hk] at h1
    exact W.aald (v := va_rf (xrf S a j.toNatClampNeg)) (ty := .object RX0) hC.hx hC.hb h1 ((hC.hK.2 3 _ rfl).1 _ _) rfl (fun q => by cases q) (by rw [arrV_size]; exact hi) (by rw [arrV_read _ _ hlt]) rfl rfl hd (kk H locs lsA hP hS hE hl)
  · rw [hk] at h1
    exact W.aald (v := va_rf (xrf S a j.toNatClampNeg)) (ty := .object RX2) hC.hx hC.hb h1 ((hC.hK.2 4 _ rfl).1 _ _) rfl (fun q => by cases q) (by rw [arrV_size]; exact hi) (by rw [arrV_read _ _ hlt]) rfl rfl hd (kk H locs lsA hP hS hE hl)
theorem g_iastore (hC : xCx cy D Bs E p R s m args meth c mm) {a : Nat} {j v : Int32} (hk : xkd S a = 7) (hi : ¬ (j < 0 ∨ xln S a ≤ j.toNatClampNeg)) (hd : decode mm.2.1 pc = .ok (.iastore, 1)) (kk : xG cy D Bs p l e R s m args below meth c Q mm.2.2.1 T0 Z0 (pc + 1) ls st S (xup V a j.toNatClampNeg v)) : xG cy D Bs p l e R s m args below meth c Q mm.2.2.1 T0 Z0 pc ls (.int v :: .int j :: .ref a :: st) S V := by
  intro H locs lsA hP hS hE hl
  have hr := (hP.2 a).1 (by omega) (by omega)
  have h1 := (hP.2 a).2.2.1 (by omega) (by omega)
  rw [hk] at h1
  refine W.iast hC.hx hC.hb h1 ((hC.hK.2 0 _ rfl).1 _ _) (fun q => by cases q) (by rw [arrV_size]; exact hi) rfl rfl hd fun H' e1 e2 e3 => ?_
  refine kk H' _ lsA (xP_upd hP e2 e3 rfl rfl xup_o ⟨fun _ h => by omega, fun _ _ => ?_, fun h => by omega⟩) (hS.put e2 e3 hr.1) (xEx_upd hE (by omega) xup_o) hl
  rw [e1, arrV_store, hk, xup_s]
  congr 2
  funext q
  by_cases hq : q = j.toNatClampNeg
  · subst hq; simp [updV, upd]
  · simp [updV, upd, hq]
theorem g_bastore (hC : xCx cy D Bs E p R s m args meth c mm) {a : Nat} {j v : Int32} (hk : xkd S a = 9) (hi : ¬ (j < 0 ∨ xln S a ≤ j.toNatClampNeg)) (hd : decode mm.2.1 pc = .ok (.bastore, 1)) (kk : xG cy D Bs p l e R s m args below meth c Q mm.2.2.1 T0 Z0 (pc + 1) ls st S (xup V a j.toNatClampNeg (vp_nar .boolean v))) : xG cy D Bs p l e R s m args below meth c Q mm.2.2.1 T0 Z0 pc ls (.int v :: .int j :: .ref a :: st) S V := by
  intro H locs lsA hP hS hE hl
  have hr := (hP.2 a).1 (by omega) (by omega)
  have h1 := (hP.2 a).2.2.1 (by omega) (by omega)
  rw [hk] at h1
  refine W.zast hC.hx hC.hb h1 ((hC.hK.2 2 _ rfl).1 _ _) (fun q => by cases q) (by rw [arrV_size]; exact hi) rfl rfl hd fun H' e1 e2 e3 => ?_
  refine kk H' _ lsA (xP_upd hP e2 e3 rfl rfl xup_o ⟨fun _ h => by omega, fun _ _ => ?_, fun h => by omega⟩) (hS.put e2 e3 hr.1) (xEx_upd hE (by omega) xup_o) hl
  rw [e1, arrV_store, hk, xup_s]
  congr 2
  funext q
  by_cases hq : q = j.toNatClampNeg
  · subst hq; simp [updV, upd, vp_nar, narrow]
  · simp [updV, upd, hq]
theorem g_castore (hC : xCx cy D Bs E p R s m args meth c mm) {a : Nat} {j v : Int32} (hk : xkd S a = 8) (hi : ¬ (j < 0 ∨ xln S a ≤ j.toNatClampNeg)) (hd : decode mm.2.1 pc = .ok (.castore, 1)) (kk : xG cy D Bs p l e R s m args below meth c Q mm.2.2.1 T0 Z0 (pc + 1) ls st S (xup V a j.toNatClampNeg (vp_nar .char v))) : xG cy D Bs p l e R s m args below meth c Q mm.2.2.1 T0 Z0 pc ls (.int v :: .int j :: .ref a :: st) S V := by
  intro H locs lsA hP hS hE hl
  have hr := (hP.2 a).1 (by omega) (by omega)
  have h1 := (hP.2 a).2.2.1 (by omega) (by omega)
  rw [hk] at h1
  refine W.cast hC.hx hC.hb h1 ((hC.hK.2 1 _ rfl).1 _ _) (fun q => by cases q) (by rw [arrV_size]; exact hi) rfl rfl hd fun H' e1 e2 e3 => ?_
  refine kk H' _ lsA (xP_upd hP e2 e3 rfl rfl xup_o ⟨fun _ h => by omega, fun _ _ => ?_, fun h => by omega⟩) (hS.put e2 e3 hr.1) (xEx_upd hE (by omega) xup_o) hl
  rw [e1, arrV_store, hk, xup_s]
  congr 2
  funext q
  by_cases hq : q = j.toNatClampNeg
  · subst hq; simp [updV, upd, vp_nar, narrow]
  · simp [updV, upd, hq]
theorem g_aastore (hC : xCx cy D Bs E p R s m args meth c mm) {a v : Nat} {j : Int32} (hk : (xkd S a = 10 ∧ xkd S v = 1) ∨ (xkd S a = 11 ∧ xkd S v = 3)) (hi : ¬ (j < 0 ∨ xln S a ≤ j.toNatClampNeg)) (hd : decode mm.2.1 pc = .ok (.aastore, 1)) (kk : xG cy D Bs p l e R s m args below meth c Q mm.2.2.1 T0 Z0 (pc + 1) ls st (xsetr S a j.toNatClampNeg (some v)) V) : xG cy D Bs p l e R s m args below meth c Q mm.2.2.1 T0 Z0 pc ls (.ref v :: .int j :: .ref a :: st) S V := by
  intro H locs lsA hP hS hE hl
  have hlt : j.toNatClampNeg < xln S a := Nat.not_le.mp fun q => hi (Or.inr q)
  have h0 : ¬ j < 0 := fun q => hi (Or.inl q)
  have hr := (hP.2 a).1 (by omega) (by omega)
  have h1 := (hP.2 a).2.2.2 (by omega) (by omega)
  obtain ⟨cellV, g1, g2, g3, -⟩ := (hP.2 v).2.1 (by omega) (by omega)
  have main : ∀ (kd : Nat) (C : String) (ci : Nat) (hcl : ClassAt s C (D.1 ci)) (hRA : va_RA s (cy kd) (.object C)), xkd S a = kd → (kd = 10 ∨ kd = 11) → cellV.cls = D.1 ci → W p l e R s m args below meth c H locs (S.2.1 - T0) (S.2.2 - Z0) Q (F0 m pc lsA (.ref v :: .int j :: .ref a :: st)) := by
    intro kd C ci hcl hRA hka hkd hcv
    rw [hka] at h1
    obtain ⟨kA, comp, k1, k2, k3, -⟩ := hRA
    have hcomp : comp = D.1 ci := Option.some.inj (k3.symm.trans hcl.1)
    subst hcomp
    obtain ⟨kC, hkC, -⟩ := hcl.2
    refine W.aast hC.hx hC.hb h1 (fun q h => by cases h) (fun h => by cases h) k1 k2 rfl hkC ⟨h0, by rw [arrV_size]; exact hlt⟩ g1 (fun q h => by rw [g3] at h; cases h) (by rw [hcv]; exact hkC) (by rw [hcv]; exact va_assign hcl) rfl rfl hd fun H' e1 e2 e3 => ?_
    refine kk H' _ lsA (xP_upd hP e2 e3 rfl (xsetr_kd _ _ _ _ _) xsetr_o ⟨fun _ h => by rw [xsetr_kd] at h; omega, fun _ h => by rw [xsetr_kd] at h; omega, fun _ _ => ?_⟩) (hS.put e2 e3 hr.1) (xEx_upd hE (by rw [xsetr_kd]; omega) xsetr_o) hl
    rw [e1, arrV_store, xsetr_kd, hka, xsetr_ln, xsetr_s]
    congr 2
    funext q
    by_cases hq : q = j.toNatClampNeg
    · subst hq; simp [updV, va_up, va_rf]
    · simp [updV, va_up, hq]
  rcases hk with ⟨hk, hv⟩ | ⟨hk, hv⟩
  · rw [hv] at g2
    exact main 10 RX0 0 (hC.hK.1 0 _ rfl).2 (hC.hK.2 3 _ rfl).2 hk (Or.inl rfl) g2
  · rw [hv] at g2
    exact main 11 RX2 2 (hC.hK.1 2 _ rfl).2 (hC.hK.2 4 _ rfl).2 hk (Or.inr rfl) g2
theorem g_alen (hC : xCx cy D Bs E p R s m args meth c mm) {a : Nat} (hk : (7 ≤ xkd S a ∧ xkd S a ≤ 12) ∨ xkd S a = 14) (hd : decode mm.2.1 pc = .ok (.arraylength, 1)) (kk : xG cy D Bs p l e R s m args below meth c Q mm.2.2.1 T0 Z0 (pc + 1) ls (.int (Int32.ofNat (xln S a)) :: st) S V) : xG cy D Bs p l e R s m args below meth c Q mm.2.2.1 T0 Z0 pc ls (.ref a :: st) S V := by
  intro H locs lsA hP hS hE hl
  by_cases h14 : xkd S a = 14
  · exact va_tlen hC.hx hC.hb ((hE a).1 h14) hS rfl hd (kk H locs lsA hP hS hE hl)
  · by_cases h12 : xkd S a = 12
    · exact va_tlen hC.hx hC.hb ((hE a).2.1 h12) hS rfl hd (kk H locs lsA hP hS hE hl)
    · obtain ⟨ty, -, -, -, -, -, hA, -⟩ := xarrT hC (kd := xkd S a) (by omega) (by omega)
      by_cases h9 : xkd S a ≤ 9
      · exact W.alen (n := Int32.ofNat (xln S a)) hC.hx hC.hb ((hP.2 a).2.2.1 (by omega) h9) (hA _ _) (by rw [arrV_size]) rfl rfl hd (kk H locs lsA hP hS hE hl)
      · exact W.alen (n := Int32.ofNat (xln S a)) hC.hx hC.hb ((hP.2 a).2.2.2 (by omega) (by omega)) (hA _ _) (by rw [arrV_size]) rfl rfl hd (kk H locs lsA hP hS hE hl)
end XOP
end
section
/-! ===== the instructions that make cells; copies; statics; Math; Object's constructor ===== -/
section XNW
variable {cy : Nat → ClassId} {D : va_G} {Bs : Nat} {E : Nat × Nat × Nat} {p : Program} {l : Launch} {e : Env} {R : Room} {s : State} {m : MethodId} {args : Array Value} {below : List Frame} {meth : Method} {c : Code} {Q : State → Prop} {mm : xM} {T0 Z0 : Nat} {pc : Nat} {ls : List (Option Value)} {st : List Value} {S : xSh} {V : xV}
theorem xS_new {H H' : Heap} {locs : List Loc} {A : Nat → Prop} {H0 : Heap} (hS : va_S A H0 H locs) (e2 : H'.size = H.size + 1) (e3 : ∀ q : Nat, q < H.size → H'[q]? = H[q]?) : va_S A H0 H' locs :=
  ⟨Nat.le_trans hS.1 (by omega), fun x h1 h2 => (e3 x (Nat.lt_of_lt_of_le h1 hS.1)).trans (hS.2.1 x h1 h2), hS.2.2⟩
theorem g_new (hC : xCx cy D Bs E p R s m args meth c mm) {x ci : Nat} (hT : T0 ≤ S.2.1) (hZ : Z0 ≤ S.2.2) (hf : xassoc xKt (xkey mm x) = some ci) (hrm : (xnew S (ci + 1) 0 (xN (ci + 1))).2.1 - T0 ≤ R.cells ∧ (xnew S (ci + 1) 0 (xN (ci + 1))).2.2 - Z0 ≤ R.slots) (hd : decode mm.2.1 pc = .ok (.new x, 3)) (kk : xG cy D Bs p l e R s m args below meth c Q mm.2.2.1 T0 Z0 (pc + 3) ls (.ref S.2.1 :: st) (xnew S (ci + 1) 0 (xN (ci + 1))) (xrow V S.2.1 (fun _ => 0))) : xG cy D Bs p l e R s m args below meth c Q mm.2.2.1 T0 Z0 pc ls st S V := by
  obtain ⟨h5, hw⟩ := xKt_ok _ (xassoc_mem hf)
  dsimp only at h5 hw
  obtain ⟨hc, hin, hty, hnm, hfn, hdc, hkind0⟩ := xkf (ci + 1) (by omega) (by omega)
  rw [Nat.add_sub_cancel] at hc hin
  have hii : Cond.instantiable (xcn ci) (xN (ci + 1)) ∈ xws0 ∧ Cond.initialized (xcn ci) ∈ xws0 := by
    have r : ci = 0 ∨ ci = 1 ∨ ci = 2 ∨ ci = 3 ∨ ci = 4 := by omega
    rcases r with rfl | rfl | rfl | rfl | rfl
    · exact ⟨xw_inst_0, xw_ini_0⟩
    · exact ⟨xw_inst_1, xw_ini_1⟩
    · exact ⟨xw_inst_2, xw_ini_2⟩
    · exact ⟨xw_inst_3, xw_ini_3⟩
    · exact ⟨xw_inst_4, xw_ini_4⟩
  intro H locs lsA hP hS hE hl
  have hKn := hC.hK.1 ci _ hc
  have e1 : (xnew S (ci + 1) 0 (xN (ci + 1))).2.1 - T0 = S.2.1 - T0 + 1 := by show S.2.1 + 1 - T0 = _; omega
  have e2 : (xnew S (ci + 1) 0 (xN (ci + 1))).2.2 - Z0 = S.2.2 - Z0 + xN (ci + 1) := by show S.2.2 + xN (ci + 1) - Z0 = _; omega
  rw [e1, e2] at hrm
  refine W.newcK hC.hx hC.hb hC.hown (hC.hts _ hw) (hC.hts _ hii.1) (hC.hts _ hii.2) rfl hd hrm.1 hrm.2 hKn.2.1 hP.1 fun H' kC hkC g1 g2 g3 => ?_
  rw [← hP.1] at g2 g3
  have hk : xkd (xnew S (ci + 1) 0 (xN (ci + 1))) S.2.1 = ci + 1 := by rw [xnew_kd, if_pos rfl]
  have k := kk H' locs lsA (xP_new hP (Nat.le_trans hC.hB hS.1) g2 g3 ⟨fun _ _ => ?_, fun h => by omega, fun h => by omega⟩) (xS_new hS g2 g3) (xEx_upd hE (by rw [hk]; omega) xnew_o) hl
  · rw [e1, e2] at k
    exact k
  · rw [hk]
    refine t_OB.to (u_born _ hC.hts hin hKn hkC g1 hty) (fun k hk2 => ?_)
    unfold xfv
    cases hR : xisR (ci + 1) k with
    | true =>
      have hz : xrf (xnew S (ci + 1) 0 (xN (ci + 1))) S.2.1 k = none := by simp [xrf, xnew]
      rw [if_pos rfl, hz]
      rcases xisR_ty hR with ⟨t, ht⟩ | ⟨t, ht⟩ <;> rw [ht] <;> rfl
    | false =>
      rw [if_neg (by simp)]
      have hz : xrow V S.2.1 (fun _ => 0) S.2.1 k = 0 := by simp [xrow]
      rw [hz]
      rcases hkind0 k hk2 hR with ht | ⟨ht, -⟩ <;> rw [ht] <;> rfl
theorem g_newarr (hC : xCx cy D Bs E p R s m args meth c mm) {t : ArrayType} {kd : Nat} {n : Int32} (hT : T0 ≤ S.2.1) (hZ : Z0 ≤ S.2.2) (hkd : (kd = 7 ∧ t = .int) ∨ (kd = 8 ∧ t = .char) ∨ (kd = 9 ∧ t = .boolean)) (hn : ¬ n < 0) (hn2 : n.toNatClampNeg ≤ 10000) (hrm : (xnew S kd n.toNatClampNeg n.toNatClampNeg).2.1 - T0 ≤ R.cells ∧ (xnew S kd n.toNatClampNeg n.toNatClampNeg).2.2 - Z0 ≤ R.slots) (hd : decode mm.2.1 pc = .ok (.newarray t, 2)) (kk : xG cy D Bs p l e R s m args below meth c Q mm.2.2.1 T0 Z0 (pc + 2) ls (.ref S.2.1 :: st) (xnew S kd n.toNatClampNeg n.toNatClampNeg) (xrow V S.2.1 (fun _ => 0))) : xG cy D Bs p l e R s m args below meth c Q mm.2.2.1 T0 Z0 pc ls (.int n :: st) S V := by
  intro H locs lsA hP hS hE hl
  have e1 : (xnew S kd n.toNatClampNeg n.toNatClampNeg).2.1 - T0 = S.2.1 - T0 + 1 := by show S.2.1 + 1 - T0 = _; omega
  have e2 : (xnew S kd n.toNatClampNeg n.toNatClampNeg).2.2 - Z0 = S.2.2 - Z0 + n.toNatClampNeg := by show S.2.2 + n.toNatClampNeg - Z0 = _; omega
  rw [e1, e2] at hrm
  have hk : xkd (xnew S kd n.toNatClampNeg n.toNatClampNeg) S.2.1 = kd := by rw [xnew_kd, if_pos rfl]
  have hln : xln (xnew S kd n.toNatClampNeg n.toNatClampNeg) S.2.1 = n.toNatClampNeg := by simp [xln, xnew]
  have hrow : xrow V S.2.1 (fun _ => 0) S.2.1 = fun _ => 0 := by simp [xrow]
  have fin : ∀ (H' : Heap), H'[S.2.1]? = some (arrV (cy kd) n.toNatClampNeg (fun _ => .int 0)) → H'.size = H.size + 1 → (∀ q, q < H.size → H'[q]? = H[q]?) → W p l e R s m args below meth c H' locs (S.2.1 - T0 + 1) (S.2.2 - Z0 + n.toNatClampNeg) Q (F0 m (pc + 2) lsA (.ref S.2.1 :: st)) := by
    intro H' g1 g2 g3
    have k := kk H' locs lsA (xP_new hP (Nat.le_trans hC.hB hS.1) g2 g3 ⟨fun _ h => by omega, fun _ _ => by rw [hk, hln, hrow]; exact g1, fun h => by omega⟩) (xS_new hS g2 g3) (xEx_upd hE (by rw [hk]; omega) xnew_o) hl
    rw [e1, e2] at k
    exact k
  rcases hkd with ⟨rfl, rfl⟩ | ⟨rfl, rfl⟩ | ⟨rfl, rfl⟩
  · refine va_newaK hC.hx hC.hb (atype := .int) (hC.hts _ xw_arr_int) rfl hd rfl hn rfl (Nat.le_trans (Nat.mul_le_mul_right _ hn2) (Nat.le_of_ble_eq_true rfl)) hrm.1 hrm.2 hP.1 fun H' cA g1 g2 g3 hAr hNm => ?_
    have hcA : cA = cy 7 := Option.some.inj (hNm.symm.trans (hC.hK.2 0 _ rfl).2)
    subst hcA
    rw [← hP.1] at g2 g3
    exact fin H' g1 g2 g3
  · refine va_newaK hC.hx hC.hb (atype := .char) (hC.hts _ xw_arr_char) rfl hd rfl hn rfl (Nat.le_trans (Nat.mul_le_mul_right _ hn2) (Nat.le_of_ble_eq_true rfl)) hrm.1 hrm.2 hP.1 fun H' cA g1 g2 g3 hAr hNm => ?_
    have hcA : cA = cy 8 := Option.some.inj (hNm.symm.trans (hC.hK.2 1 _ rfl).2)
    subst hcA
    rw [← hP.1] at g2 g3
    exact fin H' g1 g2 g3
  · refine va_newaK hC.hx hC.hb (atype := .boolean) (hC.hts _ xw_arr_boolean) rfl hd rfl hn rfl (Nat.le_trans (Nat.mul_le_mul_right _ hn2) (Nat.le_of_ble_eq_true rfl)) hrm.1 hrm.2 hP.1 fun H' cA g1 g2 g3 hAr hNm => ?_
    have hcA : cA = cy 9 := Option.some.inj (hNm.symm.trans (hC.hK.2 2 _ rfl).2)
    subst hcA
    rw [← hP.1] at g2 g3
    exact fin H' g1 g2 g3
theorem g_anewarr (hC : xCx cy D Bs E p R s m args meth c mm) {x ci kd : Nat} {n : Int32} (hT : T0 ≤ S.2.1) (hZ : Z0 ≤ S.2.2) (hf : xassoc xKt (xkey mm x) = some ci) (hkd : (kd = 10 ∧ ci = 0) ∨ (kd = 11 ∧ ci = 2)) (hn : ¬ n < 0) (hn2 : n.toNatClampNeg ≤ 10000) (hrm : (xnew S kd n.toNatClampNeg n.toNatClampNeg).2.1 - T0 ≤ R.cells ∧ (xnew S kd n.toNatClampNeg n.toNatClampNeg).2.2 - Z0 ≤ R.slots) (hd : decode mm.2.1 pc = .ok (.anewarray x, 3)) (kk : xG cy D Bs p l e R s m args below meth c Q mm.2.2.1 T0 Z0 (pc + 3) ls (.ref S.2.1 :: st) (xnew S kd n.toNatClampNeg n.toNatClampNeg) (xrow V S.2.1 (fun _ => 0))) : xG cy D Bs p l e R s m args below meth c Q mm.2.2.1 T0 Z0 pc ls (.int n :: st) S V := by
  obtain ⟨h5, hw⟩ := xKt_ok _ (xassoc_mem hf)
  dsimp only at h5 hw
  intro H locs lsA hP hS hE hl
  have e1 : (xnew S kd n.toNatClampNeg n.toNatClampNeg).2.1 - T0 = S.2.1 - T0 + 1 := by show S.2.1 + 1 - T0 = _; omega
  have e2 : (xnew S kd n.toNatClampNeg n.toNatClampNeg).2.2 - Z0 = S.2.2 - Z0 + n.toNatClampNeg := by show S.2.2 + n.toNatClampNeg - Z0 = _; omega
  rw [e1, e2] at hrm
  have hk : xkd (xnew S kd n.toNatClampNeg n.toNatClampNeg) S.2.1 = kd := by rw [xnew_kd, if_pos rfl]
  have hln : xln (xnew S kd n.toNatClampNeg n.toNatClampNeg) S.2.1 = n.toNatClampNeg := by simp [xln, xnew]
  have hrf : xrf (xnew S kd n.toNatClampNeg n.toNatClampNeg) S.2.1 = fun _ => none := by funext j; simp [xrf, xnew]
  have fin : ∀ (cA : ClassId), cA = cy kd → W p l e R s m args below meth c (H.push { cls := cA, slots := Array.replicate n.toNatClampNeg .null, vm := .none }) locs (S.2.1 - T0 + 1) (S.2.2 - Z0 + n.toNatClampNeg) Q (F0 m (pc + 3) lsA (.ref H.size :: st)) := by
    intro cA hcA
    subst hcA
    generalize hH1 : H.push ({ cls := cy kd, slots := Array.replicate n.toNatClampNeg .null, vm := .none } : Cell) = H1
    have g2 : H1.size = H.size + 1 := by rw [← hH1, Array.size_push]
    have g1 : H1[H.size]? = some (arrV (cy kd) n.toNatClampNeg (fun _ => .null)) := by rw [← hH1, Array.getElem?_push_size, ← arrV_new]
    have g3 : ∀ q : Nat, q < H.size → H1[q]? = H[q]? := fun q hq => by rw [← hH1, Array.getElem?_push, if_neg (Nat.ne_of_lt hq)]
    rw [hP.1] at g1
    have k := kk H1 locs lsA (xP_new hP (Nat.le_trans hC.hB hS.1) g2 g3 ⟨fun _ h => by omega, fun _ h => by omega, fun _ _ => by rw [hk, hln, hrf]; exact g1⟩) (xS_new hS g2 g3) (xEx_upd hE (by rw [hk]; omega) xnew_o) hl
    rw [e1, e2] at k
    rw [hP.1]
    exact k
  have h4 : n.toNatClampNeg * 4 ≤ 536870912 := Nat.le_trans (Nat.mul_le_mul_right _ hn2) (Nat.le_of_ble_eq_true rfl)
  rcases hkd with ⟨rfl, rfl⟩ | ⟨rfl, rfl⟩
  · refine W.anew hC.hx hC.hb hC.hown (hC.hts _ hw) (va_AO.use hC.hO.2.2.2.2.1) rfl hd rfl hn h4 hrm.1 hrm.2 fun cA kA comp f1 f2 f3 f4 => ?_
    obtain ⟨kA2, comp2, -, -, -, hnm2⟩ := (hC.hK.2 3 _ rfl).2
    exact fin cA (Option.some.inj (f1.symm.trans hnm2))
  · refine W.anew hC.hx hC.hb hC.hown (hC.hts _ hw) (va_AO.use hC.hO.2.2.2.2.2.1) rfl hd rfl hn h4 hrm.1 hrm.2 fun cA kA comp f1 f2 f3 f4 => ?_
    obtain ⟨kA2, comp2, -, -, -, hnm2⟩ := (hC.hK.2 4 _ rfl).2
    exact fin cA (Option.some.inj (f1.symm.trans hnm2))
theorem g_static (hC : xCx cy D Bs E p R s m args meth c mm) {x w : Nat} {v : Value} (hf : xassoc xSt (xkey mm x) = some w) (hv : (w = 0 ∧ v = .ref E.1) ∨ (w = 1 ∧ v = .ref E.2.1)) (hd : decode mm.2.1 pc = .ok (.getstatic x, 3)) (kk : xG cy D Bs p l e R s m args below meth c Q mm.2.2.1 T0 Z0 (pc + 3) ls (v :: st) S V) : xG cy D Bs p l e R s m args below meth c Q mm.2.2.1 T0 Z0 pc ls st S V := by
  obtain ⟨w0, w1, w2⟩ := xSt_ok _ (xassoc_mem hf)
  dsimp only at w0 w1 w2
  obtain ⟨z0, z1, z2, -, -, -, zn⟩ := hC.hO
  intro H locs lsA hP hS hE hl
  rcases hv with ⟨rfl, rfl⟩ | ⟨rfl, rfl⟩
  · rcases w0 rfl with h | h
    · exact va_gets hC.hx hC.hb z0 hS hC.hown (hC.hts _ h) (fun _ h => h) hd (kk H locs lsA hP hS hE hl)
    · exact va_getsN hC.hx hC.hb z0 hS hC.hown (va_Nw.use rfl (zn _ h)) (fun _ h => h) hd (kk H locs lsA hP hS hE hl)
  · rcases w1 rfl with h | h
    · exact va_gets hC.hx hC.hb z1 hS hC.hown (hC.hts _ h) (fun _ h => h) hd (kk H locs lsA hP hS hE hl)
    · exact va_getsN hC.hx hC.hb z1 hS hC.hown (va_Nw.use rfl (zn _ h)) (fun _ h => h) hd (kk H locs lsA hP hS hE hl)
theorem g_max (hC : xCx cy D Bs E p R s m args meth c mm) {x : Nat} {a b : Int32} (hf : xassoc xMt (xkey mm x) = some 0) (hst : xcat st ≤ 8) (hht : 0 < xht mm) (hrm : S.2.1 - T0 ≤ R.cells ∧ S.2.2 - Z0 ≤ R.slots) (hd : decode mm.2.1 pc = .ok (.invokestatic x, 3)) (kk : xG cy D Bs p l e R s m args below meth c Q mm.2.2.1 T0 Z0 (pc + 3) ls (.int (if a < b then b else a) :: st) S V) : xG cy D Bs p l e R s m args below meth c Q mm.2.2.1 T0 Z0 pc ls (.int b :: .int a :: st) S V := by
  have hw := (xMt_ok _ (xassoc_mem hf)).1 rfl
  dsimp only at hw
  intro H locs lsA hP hS hE hl
  have h1 := hC.hfr
  have h2 := hC.hlo
  have hst' : (st.map fun v => v.category).sum ≤ 8 := hst
  exact va_mmax hC.hx hC.hb (by rw [hC.hml]; exact hl.2.1.symm) hC.hown (hC.hts _ hw) (hC.hts _ xw_max_s) (hC.hts _ xw_math) (hC.hts _ xw_max_c) (by omega) (by omega) hrm.1 hrm.2 hd (kk H locs lsA hP hS hE hl)
theorem g_objInit (hC : xCx cy D Bs E p R s m args meth c mm) {x b : Nat} (hf : xkey mm x ∈ xOt) (hst : xcat st ≤ 8) (hht : 0 < xht mm) (hd : decode mm.2.1 pc = .ok (.invokespecial x, 3)) (kk : xG cy D Bs p l e R s m args below meth c Q mm.2.2.1 T0 Z0 (pc + 3) ls st S V) : xG cy D Bs p l e R s m args below meth c Q mm.2.2.1 T0 Z0 pc ls (.ref b :: st) S V := by
  have hw := xOt_ok _ hf
  intro H locs lsA hP hS hE hl
  have h1 := hC.hfr
  have h2 := hC.hlo
  have hst' : (st.map fun v => v.category).sum ≤ 8 := hst
  exact W.objInit hC.hx hC.hb hC.hown (hC.hts _ hw) (hC.hts _ xw_oiInst) (hC.hts _ xw_oiCode) rfl (by rw [hC.hml]; exact hl.2.1) rfl hd (by omega) (by show 2 * 0 + _ + 12 ≤ _; omega) (kk H locs lsA hP hS hE hl)
theorem g_copy (hC : xCx cy D Bs E p R s m args meth c mm) {x a a0 : Nat} {sp dp n : Int32} (hf : xkey mm x ∈ xAt) (hk0 : xkd S a0 = 7) (hk : xkd S a = 7) (h1 : ¬ sp < 0) (h2 : ¬ dp < 0) (h3 : ¬ n < 0) (h4 : sp.toNatClampNeg + n.toNatClampNeg ≤ xln S a0) (h5 : dp.toNatClampNeg + n.toNatClampNeg ≤ xln S a) (hst : xcat st ≤ 8) (hht : 0 < xht mm) (hd : decode mm.2.1 pc = .ok (.invokestatic x, 3)) (kk : xG cy D Bs p l e R s m args below meth c Q mm.2.2.1 T0 Z0 (pc + 3) ls st S (xrow V a (va_cpy (V a0) (V a) sp.toNatClampNeg dp.toNatClampNeg n.toNatClampNeg))) : xG cy D Bs p l e R s m args below meth c Q mm.2.2.1 T0 Z0 pc ls (.int n :: .int dp :: .ref a :: .int sp :: .ref a0 :: st) S V := by
  have hw := xAt_ok _ hf
  have nn : ∀ z : Int32, ¬ z < 0 → z.toInt = (z.toNatClampNeg : Int) := by
    intro z hz
    have hz0 : (0 : Int) ≤ z.toInt := by
      have := Int32.not_lt.mp hz
      simpa using Int32.le_iff_toInt_le.mp this
    show z.toInt = ((z.toInt.toNat : Nat) : Int)
    omega
  intro H locs lsA hP hS hE hl
  have hfr := hC.hfr
  have hlo := hC.hlo
  have hst' : (st.map fun v => v.category).sum ≤ 8 := hst
  have hr := (hP.2 a).1 (by omega) (by omega)
  have hc0 := (hP.2 a0).2.2.1 (by omega) (by omega)
  have hc1 := (hP.2 a).2.2.1 (by omega) (by omega)
  rw [hk0] at hc0
  rw [hk] at hc1
  intro T hT X
  obtain ⟨-, k0, hkk0, cm0, hkind0⟩ := (hC.hK.2 0 _ rfl).1 (xln S a0) (fun j => .int (V a0 j))
  obtain ⟨vm', X', step⟩ := X.arraycopy hC.hx hC.hown (hC.hts _ hw) (hC.hts _ xw_acNative) (hC.hts _ xw_acStatic) (hC.hts _ xw_acInit) (src := a0) (dst := a) (cs := vp_cell (cy 7) (xln S a0, .inl (V a0))) (cd := vp_cell (cy 7) (xln S a, .inl (V a))) (srcPos := sp) (destPos := dp) (n := n) (by rw [hT]; exact hc0) (by rw [hT]; exact hc1)
    (fun _ h => by cases h) (fun _ h => by cases h) (fun h => by cases h) (fun h => by cases h) hkk0 hkk0 hkind0 hkind0 (by simp [refKind]) h1 h2 h3
    (by rw [nn sp h1, nn n h3]; show ¬ _ > ((arrV (cy 7) (xln S a0) (fun j => .int (V a0 j))).slots.size : Int); rw [arrV_size]; omega)
    (by rw [nn dp h2, nn n h3]; show ¬ _ > ((arrV (cy 7) (xln S a) (fun j => .int (V a j))).slots.size : Int); rw [arrV_size]; omega)
    (fun vm₁ _ i hi => by
      have e : (vp_cell (cy 7) (xln S a0, .inl (V a0))).slots.getD (sp.toNatClampNeg + i) .null = .int (V a0 (sp.toNatClampNeg + i)) := by
        show (arrV (cy 7) (xln S a0) (fun j => .int (V a0 j))).slots.getD _ _ = _
        rw [Array.getD_eq_getD_getElem?, arrV_read _ _ (by omega)]
        rfl
      refine ⟨?_, ?_⟩
      · rw [e]
        rfl
      · rw [e]
        exact trivial)
    (g := F0 m pc lsA (.int n :: .int dp :: .ref a :: .int sp :: .ref a0 :: st)) rfl (by rw [hC.hml]; exact hl.2.1) (rest := st) rfl (by rw [hC.hb]; exact hd) (by omega) (by show 2 * 0 + _ + (5 + 2 + 11) ≤ _; omega)
  have e1 : copied (vp_cell (cy 7) (xln S a0, .inl (V a0))) (vp_cell (cy 7) (xln S a, .inl (V a))) sp dp n = vp_cell (cy 7) (xln S a, .inl (va_cpy (V a0) (V a) sp.toNatClampNeg dp.toNatClampNeg n.toNatClampNeg)) := va_copied (fun z => .int z) (cy 7) (cy 7) (V a0) (V a) h4
  rw [e1] at X' step
  have hlt : a < H.size := (Array.getElem?_eq_some_iff.mp hc1).1
  generalize hcell : vp_cell (cy 7) (xln S a, .inl (va_cpy (V a0) (V a) sp.toNatClampNeg dp.toNatClampNeg n.toNatClampNeg)) = cell at X' step
  have hheap : ((T.setVm vm').setCell a cell).heap = H.setIfInBounds a cell := by rw [← hT]; rfl
  have g3 : ∀ q : Nat, q ≠ a → (H.setIfInBounds a cell)[q]? = H[q]? := fun q hq => by simp [Array.getElem?_setIfInBounds, Ne.symm hq]
  have g2 : (H.setIfInBounds a cell).size = H.size := by simp
  have g1 : (H.setIfInBounds a cell)[a]? = some cell := by simp [Array.getElem?_setIfInBounds, hlt]
  have hrow : xrow V a (va_cpy (V a0) (V a) sp.toNatClampNeg dp.toNatClampNeg n.toNatClampNeg) a = va_cpy (V a0) (V a) sp.toNatClampNeg dp.toNatClampNeg n.toNatClampNeg := by simp [xrow]
  obtain ⟨t, a1, b1⟩ := kk _ _ lsA (xP_upd hP g2 g3 rfl rfl xrow_o ⟨fun _ h => by omega, fun _ _ => by rw [hk, hrow, g1, ← hcell]; rfl, fun h => by omega⟩) ⟨by rw [g2]; exact hS.1, fun q q1 q2 => by
      rw [g3 q (fun e => q2 (by rw [e]; exact hr.1))]
      exact hS.2.1 q q1 q2, fun q hq => by
      rcases List.mem_append.mp hq with h | h
      · exact hS.2.2 q h
      · obtain ⟨z, -, hz⟩ := List.mem_map.mp h
        rw [← hz]
        exact hr.1⟩ (xEx_upd hE (by omega) xrow_o) hl _ hheap X'
  exact ⟨t, step t a1, b1⟩
end XNW
end
section
/-! ===== a step, whichever it is ===== -/
section XDI
variable {cy : Nat → ClassId} {D : va_G} {Bs : Nat} {E : Nat × Nat × Nat} {p : Program} {l : Launch} {e : Env} {R : Room} {s : State} {m : MethodId} {args : Array Value} {below : List Frame} {meth : Method} {c : Code} {Q : State → Prop} {mm : xM} {T0 Z0 : Nat} {pc : Nat} {ls : List (Option Value)} {st : List Value} {S : xSh} {V : xV}
theorem lv_if_eq' {H : Heap} {locs : List Loc} {cells slots : Nat} {lsA : Array Slot} {rest : List Value} {cc : ByteArray} (hexec : p.tables.exec = Jvm.exec) (hb : c.code = cc) {x : Int32} {off : Int} (hdg : decode cc pc = .ok (.ifCond .eq off, 3)) (hP : ¬ (x = 0)) (kf : W p l e R s m args below meth c H locs cells slots Q (F0 m (pc + 3) lsA rest)) : W p l e R s m args below meth c H locs cells slots Q (F0 m pc lsA (.int x :: rest)) := by
  intro T hT X
  obtain ⟨t, a, b⟩ := kf T hT X
  refine ⟨t, ?_, b⟩
  jvm_step X.here [X.here.top, hexec, hb, hdg, Op.ifCond.holds, hP]
  exact a
theorem lv_icmp_eq' {H : Heap} {locs : List Loc} {cells slots : Nat} {lsA : Array Slot} {rest : List Value} {cc : ByteArray} (hexec : p.tables.exec = Jvm.exec) (hb : c.code = cc) {x y : Int32} {off : Int} (hdg : decode cc pc = .ok (.if_icmp .eq off, 3)) (hP : ¬ (x = y)) (kf : W p l e R s m args below meth c H locs cells slots Q (F0 m (pc + 3) lsA rest)) : W p l e R s m args below meth c H locs cells slots Q (F0 m pc lsA (.int y :: .int x :: rest)) := by
  intro T hT X
  obtain ⟨t, a, b⟩ := kf T hT X
  refine ⟨t, ?_, b⟩
  jvm_step X.here [X.here.top, hexec, hb, hdg, Op.if_icmp.holds, hP]
  exact a
theorem lv_if_ne' {H : Heap} {locs : List Loc} {cells slots : Nat} {lsA : Array Slot} {rest : List Value} {cc : ByteArray} (hexec : p.tables.exec = Jvm.exec) (hb : c.code = cc) {x : Int32} {off : Int} (hdg : decode cc pc = .ok (.ifCond .ne off, 3)) (hP : x = 0) (kf : W p l e R s m args below meth c H locs cells slots Q (F0 m (pc + 3) lsA rest)) : W p l e R s m args below meth c H locs cells slots Q (F0 m pc lsA (.int x :: rest)) := by
  intro T hT X
  obtain ⟨t, a, b⟩ := kf T hT X
  refine ⟨t, ?_, b⟩
  jvm_step X.here [X.here.top, hexec, hb, hdg, Op.ifCond.holds, hP]
  exact a
theorem lv_icmp_ne' {H : Heap} {locs : List Loc} {cells slots : Nat} {lsA : Array Slot} {rest : List Value} {cc : ByteArray} (hexec : p.tables.exec = Jvm.exec) (hb : c.code = cc) {x y : Int32} {off : Int} (hdg : decode cc pc = .ok (.if_icmp .ne off, 3)) (hP : x = y) (kf : W p l e R s m args below meth c H locs cells slots Q (F0 m (pc + 3) lsA rest)) : W p l e R s m args below meth c H locs cells slots Q (F0 m pc lsA (.int y :: .int x :: rest)) := by
  intro T hT X
  obtain ⟨t, a, b⟩ := kf T hT X
  refine ⟨t, ?_, b⟩
  jvm_step X.here [X.here.top, hexec, hb, hdg, Op.if_icmp.holds, hP]
  exact a
theorem lv_if_lt' {H : Heap} {locs : List Loc} {cells slots : Nat} {lsA : Array Slot} {rest : List Value} {cc : ByteArray} (hexec : p.tables.exec = Jvm.exec) (hb : c.code = cc) {x : Int32} {off : Int} (hdg : decode cc pc = .ok (.ifCond .lt off, 3)) (hP : ¬ (x < 0)) (kf : W p l e R s m args below meth c H locs cells slots Q (F0 m (pc + 3) lsA rest)) : W p l e R s m args below meth c H locs cells slots Q (F0 m pc lsA (.int x :: rest)) := by
  intro T hT X
  obtain ⟨t, a, b⟩ := kf T hT X
  refine ⟨t, ?_, b⟩
  jvm_step X.here [X.here.top, hexec, hb, hdg, Op.ifCond.holds, hP]
  exact a
theorem lv_icmp_lt' {H : Heap} {locs : List Loc} {cells slots : Nat} {lsA : Array Slot} {rest : List Value} {cc : ByteArray} (hexec : p.tables.exec = Jvm.exec) (hb : c.code = cc) {x y : Int32} {off : Int} (hdg : decode cc pc = .ok (.if_icmp .lt off, 3)) (hP : ¬ (x < y)) (kf : W p l e R s m args below meth c H locs cells slots Q (F0 m (pc + 3) lsA rest)) : W p l e R s m args below meth c H locs cells slots Q (F0 m pc lsA (.int y :: .int x :: rest)) := by
  intro T hT X
  obtain ⟨t, a, b⟩ := kf T hT X
  refine ⟨t, ?_, b⟩
  jvm_step X.here [X.here.top, hexec, hb, hdg, Op.if_icmp.holds, hP]
  exact a
theorem lv_if_ge' {H : Heap} {locs : List Loc} {cells slots : Nat} {lsA : Array Slot} {rest : List Value} {cc : ByteArray} (hexec : p.tables.exec = Jvm.exec) (hb : c.code = cc) {x : Int32} {off : Int} (hdg : decode cc pc = .ok (.ifCond .ge off, 3)) (hP : ¬ (0 ≤ x)) (kf : W p l e R s m args below meth c H locs cells slots Q (F0 m (pc + 3) lsA rest)) : W p l e R s m args below meth c H locs cells slots Q (F0 m pc lsA (.int x :: rest)) := by
  intro T hT X
  obtain ⟨t, a, b⟩ := kf T hT X
  refine ⟨t, ?_, b⟩
  jvm_step X.here [X.here.top, hexec, hb, hdg, Op.ifCond.holds, hP]
  exact a
theorem lv_icmp_ge' {H : Heap} {locs : List Loc} {cells slots : Nat} {lsA : Array Slot} {rest : List Value} {cc : ByteArray} (hexec : p.tables.exec = Jvm.exec) (hb : c.code = cc) {x y : Int32} {off : Int} (hdg : decode cc pc = .ok (.if_icmp .ge off, 3)) (hP : ¬ (y ≤ x)) (kf : W p l e R s m args below meth c H locs cells slots Q (F0 m (pc + 3) lsA rest)) : W p l e R s m args below meth c H locs cells slots Q (F0 m pc lsA (.int y :: .int x :: rest)) := by
  intro T hT X
  obtain ⟨t, a, b⟩ := kf T hT X
  refine ⟨t, ?_, b⟩
  jvm_step X.here [X.here.top, hexec, hb, hdg, Op.if_icmp.holds, hP]
  exact a
theorem lv_if_gt' {H : Heap} {locs : List Loc} {cells slots : Nat} {lsA : Array Slot} {rest : List Value} {cc : ByteArray} (hexec : p.tables.exec = Jvm.exec) (hb : c.code = cc) {x : Int32} {off : Int} (hdg : decode cc pc = .ok (.ifCond .gt off, 3)) (hP : ¬ (0 < x)) (kf : W p l e R s m args below meth c H locs cells slots Q (F0 m (pc + 3) lsA rest)) : W p l e R s m args below meth c H locs cells slots Q (F0 m pc lsA (.int x :: rest)) := by
  intro T hT X
  obtain ⟨t, a, b⟩ := kf T hT X
  refine ⟨t, ?_, b⟩
  jvm_step X.here [X.here.top, hexec, hb, hdg, Op.ifCond.holds, hP]
  exact a
theorem lv_icmp_gt' {H : Heap} {locs : List Loc} {cells slots : Nat} {lsA : Array Slot} {rest : List Value} {cc : ByteArray} (hexec : p.tables.exec = Jvm.exec) (hb : c.code = cc) {x y : Int32} {off : Int} (hdg : decode cc pc = .ok (.if_icmp .gt off, 3)) (hP : ¬ (y < x)) (kf : W p l e R s m args below meth c H locs cells slots Q (F0 m (pc + 3) lsA rest)) : W p l e R s m args below meth c H locs cells slots Q (F0 m pc lsA (.int y :: .int x :: rest)) := by
  intro T hT X
  obtain ⟨t, a, b⟩ := kf T hT X
  refine ⟨t, ?_, b⟩
  jvm_step X.here [X.here.top, hexec, hb, hdg, Op.if_icmp.holds, hP]
  exact a
theorem lv_if_le' {H : Heap} {locs : List Loc} {cells slots : Nat} {lsA : Array Slot} {rest : List Value} {cc : ByteArray} (hexec : p.tables.exec = Jvm.exec) (hb : c.code = cc) {x : Int32} {off : Int} (hdg : decode cc pc = .ok (.ifCond .le off, 3)) (hP : ¬ (x ≤ 0)) (kf : W p l e R s m args below meth c H locs cells slots Q (F0 m (pc + 3) lsA rest)) : W p l e R s m args below meth c H locs cells slots Q (F0 m pc lsA (.int x :: rest)) := by
  intro T hT X
  obtain ⟨t, a, b⟩ := kf T hT X
  refine ⟨t, ?_, b⟩
  jvm_step X.here [X.here.top, hexec, hb, hdg, Op.ifCond.holds, hP]
  exact a
theorem lv_icmp_le' {H : Heap} {locs : List Loc} {cells slots : Nat} {lsA : Array Slot} {rest : List Value} {cc : ByteArray} (hexec : p.tables.exec = Jvm.exec) (hb : c.code = cc) {x y : Int32} {off : Int} (hdg : decode cc pc = .ok (.if_icmp .le off, 3)) (hP : ¬ (x ≤ y)) (kf : W p l e R s m args below meth c H locs cells slots Q (F0 m (pc + 3) lsA rest)) : W p l e R s m args below meth c H locs cells slots Q (F0 m pc lsA (.int y :: .int x :: rest)) := by
  intro T hT X
  obtain ⟨t, a, b⟩ := kf T hT X
  refine ⟨t, ?_, b⟩
  jvm_step X.here [X.here.top, hexec, hb, hdg, Op.if_icmp.holds, hP]
  exact a
theorem g_off (hC : xCx cy D Bs E p R s m args meth c mm) {i : Instr} {off : Int} {k : Nat} {pc' : Nat} {ls' : List (Option Value)} {st' st0 : List Value} {S' : xSh} {V' : xV} (h : xoff pc off ls st S V = some (.inl (pc', ls', st', S', V')))
    (hw : ∀ (tgt : Nat), (pc : Int) + off = (tgt : Int) → xG cy D Bs p l e R s m args below meth c Q mm.2.2.1 T0 Z0 tgt ls st S V → xG cy D Bs p l e R s m args below meth c Q mm.2.2.1 T0 Z0 pc ls st0 S V) (kk : xG cy D Bs p l e R s m args below meth c Q mm.2.2.1 T0 Z0 pc' ls' st' S' V') : xG cy D Bs p l e R s m args below meth c Q mm.2.2.1 T0 Z0 pc ls st0 S V := by
  unfold xoff xgo at h
  split at h
  · rename_i h0
    cases h
    exact hw _ (by omega) kk
  · cases h
theorem xnext_ok (hC : xCx cy D Bs E p R s m args meth c mm) (hT : T0 ≤ S.2.1) (hZ : Z0 ≤ S.2.2) {pc' : Nat} {ls' : List (Option Value)} {st' : List Value} {S' : xSh} {V' : xV} (h : xstep E mm pc ls st S V = some (.inl (pc', ls', st', S', V'))) (hrm : S'.2.1 - T0 ≤ R.cells ∧ S'.2.2 - Z0 ≤ R.slots) (kk : xG cy D Bs p l e R s m args below meth c Q mm.2.2.1 T0 Z0 pc' ls' st' S' V') : xG cy D Bs p l e R s m args below meth c Q mm.2.2.1 T0 Z0 pc ls st S V := by
  unfold xstep at h
  cases hd : decode mm.2.1 pc with
  | error x => rw [hd] at h; cases h
  | ok ik =>
  obtain ⟨i, k⟩ := ik
  rw [hd] at h
  dsimp only at h
  cases i
  case iconst n =>
    simp only [xdo, xgo] at h
    split at h
    · rename_i hk
      subst hk
      cases h
      exact fun H locs lsA hP hS hE hl => lv_iconst hC.hx hC.hb hd rfl (kk H locs lsA hP hS hE hl)
    · cases h
  case bipush n =>
    simp only [xdo, xgo] at h
    split at h
    · rename_i hk
      subst hk
      cases h
      exact fun H locs lsA hP hS hE hl => lv_bipush hC.hx hC.hb hd rfl (kk H locs lsA hP hS hE hl)
    · cases h
  case sipush n =>
    simp only [xdo, xgo] at h
    split at h
    · rename_i hk
      subst hk
      cases h
      exact fun H locs lsA hP hS hE hl => lv_sipush hC.hx hC.hb hd rfl (kk H locs lsA hP hS hE hl)
    · cases h
  case lconst n =>
    simp only [xdo, xgo] at h
    split at h
    · rename_i hk
      subst hk
      cases h
      exact fun H locs lsA hP hS hE hl => lv_lconst hC.hx hC.hb hd rfl (kk H locs lsA hP hS hE hl)
    · cases h
  case iload_n j =>
    simp only [xdo, xgo] at h
    split at h
    · rename_i hk
      subst hk
      split at h
      · rename_i x hx
        cases h
        exact fun H locs lsA hP hS hE hl => lv_iload_n hC.hx hC.hb hd rfl (xLo_at hl hx) (kk H locs lsA hP hS hE hl)
      · cases h
    · cases h
  case iload j =>
    simp only [xdo, xgo] at h
    split at h
    · rename_i hk
      subst hk
      split at h
      · rename_i x hx
        cases h
        exact fun H locs lsA hP hS hE hl => lv_iload hC.hx hC.hb hd (xLo_at hl hx) (kk H locs lsA hP hS hE hl)
      · cases h
    · cases h
  case lload_n j =>
    simp only [xdo, xgo] at h
    split at h
    · rename_i hk
      subst hk
      split at h
      · rename_i x hx
        cases h
        exact fun H locs lsA hP hS hE hl => lv_lload_n hC.hx hC.hb hd rfl (xLo_at hl hx) (kk H locs lsA hP hS hE hl)
      · cases h
    · cases h
  case lload j =>
    simp only [xdo, xgo] at h
    split at h
    · rename_i hk
      subst hk
      split at h
      · rename_i x hx
        cases h
        exact fun H locs lsA hP hS hE hl => lv_lload hC.hx hC.hb hd (xLo_at hl hx) (kk H locs lsA hP hS hE hl)
      · cases h
    · cases h
  case aload_n j =>
    simp only [xdo, xgo] at h
    split at h
    · rename_i hk
      subst hk
      split at h
      · rename_i x hx
        cases h
        exact fun H locs lsA hP hS hE hl => lv_aload_n hC.hx hC.hb hd rfl (xLo_at hl hx) (kk H locs lsA hP hS hE hl)
      · cases h
    · cases h
  case aload j =>
    simp only [xdo, xgo] at h
    split at h
    · rename_i hk
      subst hk
      split at h
      · rename_i x hx
        cases h
        exact fun H locs lsA hP hS hE hl => lv_aload hC.hx hC.hb hd (xLo_at hl hx) (kk H locs lsA hP hS hE hl)
      · cases h
    · cases h
  case istore_n j =>
    simp only [xdo, xgo] at h
    split at h
    · rename_i hk
      subst hk
      split at h
      · split at h
        · rename_i hlt
          cases h
          exact fun H locs lsA hP hS hE hl => lv_istore_n hC.hx hC.hb hd rfl hl.2 (by rw [← hl.1]; exact hlt) rfl (fun ls2 h2 => kk H locs ls2 hP hS hE (xLo_st1 hl h2))
        · cases h
      · cases h
    · cases h
  case istore j =>
    simp only [xdo, xgo] at h
    split at h
    · rename_i hk
      subst hk
      split at h
      · split at h
        · rename_i hlt
          cases h
          exact fun H locs lsA hP hS hE hl => lv_istore hC.hx hC.hb hd hl.2 (by rw [← hl.1]; exact hlt) rfl (fun ls2 h2 => kk H locs ls2 hP hS hE (xLo_st1 hl h2))
        · cases h
      · cases h
    · cases h
  case lstore_n j =>
    simp only [xdo, xgo] at h
    split at h
    · rename_i hk
      subst hk
      split at h
      · split at h
        · rename_i hlt
          cases h
          exact fun H locs lsA hP hS hE hl => lv_lstore_n hC.hx hC.hb hd rfl hl.2 (by rw [← hl.1]; exact hlt) rfl (fun ls2 h2 => kk H locs ls2 hP hS hE (xLo_st2 hl h2))
        · cases h
      · cases h
    · cases h
  case lstore j =>
    simp only [xdo, xgo] at h
    split at h
    · rename_i hk
      subst hk
      split at h
      · split at h
        · rename_i hlt
          cases h
          exact fun H locs lsA hP hS hE hl => lv_lstore hC.hx hC.hb hd hl.2 (by rw [← hl.1]; exact hlt) rfl (fun ls2 h2 => kk H locs ls2 hP hS hE (xLo_st2 hl h2))
        · cases h
      · cases h
    · cases h
  case astore_n j =>
    simp only [xdo, xgo] at h
    split at h
    · rename_i hk
      subst hk
      split at h
      · split at h
        · rename_i hlt
          cases h
          exact fun H locs lsA hP hS hE hl => lv_astore_n hC.hx hC.hb hd rfl hl.2 (by rw [← hl.1]; exact hlt) rfl (fun ls2 h2 => kk H locs ls2 hP hS hE (xLo_st1 hl h2))
        · cases h
      · cases h
    · cases h
  case astore j =>
    simp only [xdo, xgo] at h
    split at h
    · rename_i hk
      subst hk
      split at h
      · split at h
        · rename_i hlt
          cases h
          exact fun H locs lsA hP hS hE hl => lv_astore hC.hx hC.hb hd hl.2 (by rw [← hl.1]; exact hlt) rfl (fun ls2 h2 => kk H locs ls2 hP hS hE (xLo_st1 hl h2))
        · cases h
      · cases h
    · cases h
  case iinc j n =>
    simp only [xdo, xgo] at h
    split at h
    · rename_i hk
      subst hk
      split at h
      · rename_i x hx
        split at h
        · rename_i hlt
          cases h
          intro H locs lsA hP hS hE hl
          obtain ⟨q, hq⟩ := List.getElem?_of_mem (xlv_mem.mpr (xlocAt_iff.mp hx))
          exact lv_iinc hC.hx hC.hb hd hl.2 hq rfl (by rw [← hl.1]; exact hlt) rfl (fun ls2 h2 => kk H locs ls2 hP hS hE (xLo_st1 hl h2))
        · cases h
      · cases h
    · cases h
  case iadd =>
    simp only [xdo, xgo] at h
    split at h
    · rename_i hk
      subst hk
      split at h
      · cases h
        exact fun H locs lsA hP hS hE hl => lv_iadd hC.hx hC.hb hd (kk H locs lsA hP hS hE hl)
      · cases h
    · cases h
  case isub =>
    simp only [xdo, xgo] at h
    split at h
    · rename_i hk
      subst hk
      split at h
      · cases h
        exact fun H locs lsA hP hS hE hl => lv_isub hC.hx hC.hb hd (kk H locs lsA hP hS hE hl)
      · cases h
    · cases h
  case imul =>
    simp only [xdo, xgo] at h
    split at h
    · rename_i hk
      subst hk
      split at h
      · cases h
        exact fun H locs lsA hP hS hE hl => lv_imul hC.hx hC.hb hd (kk H locs lsA hP hS hE hl)
      · cases h
    · cases h
  case iand =>
    simp only [xdo, xgo] at h
    split at h
    · rename_i hk
      subst hk
      split at h
      · cases h
        exact fun H locs lsA hP hS hE hl => lv_iand hC.hx hC.hb hd (kk H locs lsA hP hS hE hl)
      · cases h
    · cases h
  case ior =>
    simp only [xdo, xgo] at h
    split at h
    · rename_i hk
      subst hk
      split at h
      · cases h
        exact fun H locs lsA hP hS hE hl => lv_ior hC.hx hC.hb hd (kk H locs lsA hP hS hE hl)
      · cases h
    · cases h
  case ixor =>
    simp only [xdo, xgo] at h
    split at h
    · rename_i hk
      subst hk
      split at h
      · cases h
        exact fun H locs lsA hP hS hE hl => lv_ixor hC.hx hC.hb hd (kk H locs lsA hP hS hE hl)
      · cases h
    · cases h
  case ishl =>
    simp only [xdo, xgo] at h
    split at h
    · rename_i hk
      subst hk
      split at h
      · cases h
        exact fun H locs lsA hP hS hE hl => lv_ishl hC.hx hC.hb hd (kk H locs lsA hP hS hE hl)
      · cases h
    · cases h
  case ishr =>
    simp only [xdo, xgo] at h
    split at h
    · rename_i hk
      subst hk
      split at h
      · cases h
        exact fun H locs lsA hP hS hE hl => lv_ishr hC.hx hC.hb hd (kk H locs lsA hP hS hE hl)
      · cases h
    · cases h
  case land =>
    simp only [xdo, xgo] at h
    split at h
    · rename_i hk
      subst hk
      split at h
      · cases h
        exact fun H locs lsA hP hS hE hl => lv_land hC.hx hC.hb hd (kk H locs lsA hP hS hE hl)
      · cases h
    · cases h
  case lor =>
    simp only [xdo, xgo] at h
    split at h
    · rename_i hk
      subst hk
      split at h
      · cases h
        exact fun H locs lsA hP hS hE hl => lv_lor hC.hx hC.hb hd (kk H locs lsA hP hS hE hl)
      · cases h
    · cases h
  case iushr =>
    simp only [xdo, xgo] at h
    split at h
    · rename_i hk
      subst hk
      split at h
      · cases h
        exact fun H locs lsA hP hS hE hl => lv_iushr hC.hx hC.hb hd rfl (kk H locs lsA hP hS hE hl)
      · cases h
    · cases h
  case lshl =>
    simp only [xdo, xgo] at h
    split at h
    · rename_i hk
      subst hk
      split at h
      · cases h
        exact fun H locs lsA hP hS hE hl => lv_lshl hC.hx hC.hb hd rfl (kk H locs lsA hP hS hE hl)
      · cases h
    · cases h
  case lushr =>
    simp only [xdo, xgo] at h
    split at h
    · rename_i hk
      subst hk
      split at h
      · cases h
        exact fun H locs lsA hP hS hE hl => lv_lushr hC.hx hC.hb hd rfl (kk H locs lsA hP hS hE hl)
      · cases h
    · cases h
  case i2l =>
    simp only [xdo, xgo] at h
    split at h
    · rename_i hk
      subst hk
      split at h
      · cases h
        exact fun H locs lsA hP hS hE hl => lv_i2l hC.hx hC.hb hd rfl (kk H locs lsA hP hS hE hl)
      · cases h
    · cases h
  case l2i =>
    simp only [xdo, xgo] at h
    split at h
    · rename_i hk
      subst hk
      split at h
      · cases h
        exact fun H locs lsA hP hS hE hl => lv_l2i hC.hx hC.hb hd rfl (kk H locs lsA hP hS hE hl)
      · cases h
    · cases h
  case i2c =>
    simp only [xdo, xgo] at h
    split at h
    · rename_i hk
      subst hk
      split at h
      · cases h
        exact fun H locs lsA hP hS hE hl => lv_i2c hC.hx hC.hb hd rfl (kk H locs lsA hP hS hE hl)
      · cases h
    · cases h
  case i2b =>
    simp only [xdo, xgo] at h
    split at h
    · rename_i hk
      subst hk
      split at h
      · cases h
        exact fun H locs lsA hP hS hE hl => lv_i2b hC.hx hC.hb hd rfl (kk H locs lsA hP hS hE hl)
      · cases h
    · cases h
  case lcmp =>
    simp only [xdo, xgo] at h
    split at h
    · rename_i hk
      subst hk
      split at h
      · cases h
        exact fun H locs lsA hP hS hE hl => W.lcmp hC.hx hC.hb hd (kk H locs lsA hP hS hE hl)
      · cases h
    · cases h
  case irem =>
    simp only [xdo, xgo] at h
    split at h
    · rename_i hk
      subst hk
      split at h
      · split at h
        · cases h
        · rename_i hne
          cases h
          exact fun H locs lsA hP hS hE hl => lv_irem hC.hx hC.hb hd hne (kk H locs lsA hP hS hE hl)
      · cases h
    · cases h
  case idiv =>
    simp only [xdo, xgo] at h
    split at h
    · rename_i hk
      subst hk
      split at h
      · split at h
        · cases h
        · rename_i hne
          cases h
          exact fun H locs lsA hP hS hE hl => lv_idiv hC.hx hC.hb hd hne (kk H locs lsA hP hS hE hl)
      · cases h
    · cases h
  case ladd =>
    simp only [xdo, xgo] at h
    split at h
    · rename_i hk
      subst hk
      split at h
      · cases h
        exact fun H locs lsA hP hS hE hl => lv_ladd hC.hx hC.hb hd (kk H locs lsA hP hS hE hl)
      · cases h
    · cases h
  case lmul =>
    simp only [xdo, xgo] at h
    split at h
    · rename_i hk
      subst hk
      split at h
      · cases h
        exact fun H locs lsA hP hS hE hl => lv_lmul hC.hx hC.hb hd (kk H locs lsA hP hS hE hl)
      · cases h
    · cases h
  case dup =>
    simp only [xdo, xgo] at h
    split at h
    · rename_i hk
      subst hk
      split at h
      · split at h
        · rename_i hc
          cases h
          exact fun H locs lsA hP hS hE hl => lv_dup hC.hx hC.hb hd hc (kk H locs lsA hP hS hE hl)
        · cases h
      · cases h
    · cases h
  case pop =>
    simp only [xdo, xgo] at h
    split at h
    · rename_i hk
      subst hk
      split at h
      · split at h
        · rename_i hc
          cases h
          exact fun H locs lsA hP hS hE hl => lv_pop hC.hx hC.hb hd hc (kk H locs lsA hP hS hE hl)
        · cases h
      · cases h
    · cases h
  case dup2 =>
    simp only [xdo, xgo] at h
    split at h
    · rename_i hk
      subst hk
      split at h
      · split at h
        · rename_i hc
          cases h
          exact fun H locs lsA hP hS hE hl => lv_dup2_11 hC.hx hC.hb hd hc.1 hc.2 (kk H locs lsA hP hS hE hl)
        · cases h
      · cases h
    · cases h
  case ifCond cc off =>
    simp only [xdo, xgo] at h
    split at h
    · rename_i hk
      subst hk
      split at h
      · cases cc
        case eq =>
          simp only [xcb, decide_eq_true_eq] at h
          split at h
          · rename_i hq
            refine g_off (i := .nop) (k := 0) hC h (fun tgt ht kt => ?_) kk
            intro H locs lsA hP hS hE hl
            exact lv_if_eq hC.hx hC.hb hd ht (fun _ => kt H locs lsA hP hS hE hl) (fun hn => absurd hq hn)
          · rename_i hq
            cases h
            intro H locs lsA hP hS hE hl
            exact lv_if_eq' hC.hx hC.hb hd hq (kk H locs lsA hP hS hE hl)
        case ne =>
          simp only [xcb, decide_eq_true_eq] at h
          split at h
          · rename_i hq
            refine g_off (i := .nop) (k := 0) hC h (fun tgt ht kt => ?_) kk
            intro H locs lsA hP hS hE hl
            exact lv_if_ne hC.hx hC.hb hd ht (fun _ => kt H locs lsA hP hS hE hl) (fun hn => absurd hn hq)
          · rename_i hq
            cases h
            intro H locs lsA hP hS hE hl
            exact lv_if_ne' hC.hx hC.hb hd (Classical.not_not.mp hq) (kk H locs lsA hP hS hE hl)
        case lt =>
          simp only [xcb, decide_eq_true_eq] at h
          split at h
          · rename_i hq
            refine g_off (i := .nop) (k := 0) hC h (fun tgt ht kt => ?_) kk
            intro H locs lsA hP hS hE hl
            exact lv_if_lt hC.hx hC.hb hd ht (fun _ => kt H locs lsA hP hS hE hl) (fun hn => absurd hq hn)
          · rename_i hq
            cases h
            intro H locs lsA hP hS hE hl
            exact lv_if_lt' hC.hx hC.hb hd hq (kk H locs lsA hP hS hE hl)
        case ge =>
          simp only [xcb, decide_eq_true_eq] at h
          split at h
          · rename_i hq
            refine g_off (i := .nop) (k := 0) hC h (fun tgt ht kt => ?_) kk
            intro H locs lsA hP hS hE hl
            exact lv_if_ge hC.hx hC.hb hd ht (fun _ => kt H locs lsA hP hS hE hl) (fun hn => absurd hq hn)
          · rename_i hq
            cases h
            intro H locs lsA hP hS hE hl
            exact lv_if_ge' hC.hx hC.hb hd hq (kk H locs lsA hP hS hE hl)
        case gt =>
          simp only [xcb, decide_eq_true_eq] at h
          split at h
          · rename_i hq
            refine g_off (i := .nop) (k := 0) hC h (fun tgt ht kt => ?_) kk
            intro H locs lsA hP hS hE hl
            exact lv_if_gt hC.hx hC.hb hd ht (fun _ => kt H locs lsA hP hS hE hl) (fun hn => absurd hq hn)
          · rename_i hq
            cases h
            intro H locs lsA hP hS hE hl
            exact lv_if_gt' hC.hx hC.hb hd hq (kk H locs lsA hP hS hE hl)
        case le =>
          simp only [xcb, decide_eq_true_eq] at h
          split at h
          · rename_i hq
            refine g_off (i := .nop) (k := 0) hC h (fun tgt ht kt => ?_) kk
            intro H locs lsA hP hS hE hl
            exact lv_if_le hC.hx hC.hb hd ht (fun _ => kt H locs lsA hP hS hE hl) (fun hn => absurd hq hn)
          · rename_i hq
            cases h
            intro H locs lsA hP hS hE hl
            exact lv_if_le' hC.hx hC.hb hd hq (kk H locs lsA hP hS hE hl)
      · cases h
    · cases h
  case if_icmp cc off =>
    simp only [xdo, xgo] at h
    split at h
    · rename_i hk
      subst hk
      split at h
      · cases cc
        case eq =>
          simp only [xcb, decide_eq_true_eq] at h
          split at h
          · rename_i hq
            refine g_off (i := .nop) (k := 0) hC h (fun tgt ht kt => ?_) kk
            intro H locs lsA hP hS hE hl
            exact lv_icmp_eq hC.hx hC.hb hd ht (fun _ => kt H locs lsA hP hS hE hl) (fun hn => absurd hq hn)
          · rename_i hq
            cases h
            intro H locs lsA hP hS hE hl
            exact lv_icmp_eq' hC.hx hC.hb hd hq (kk H locs lsA hP hS hE hl)
        case ne =>
          simp only [xcb, decide_eq_true_eq] at h
          split at h
          · rename_i hq
            refine g_off (i := .nop) (k := 0) hC h (fun tgt ht kt => ?_) kk
            intro H locs lsA hP hS hE hl
            exact lv_icmp_ne hC.hx hC.hb hd ht (fun _ => kt H locs lsA hP hS hE hl) (fun hn => absurd hn hq)
          · rename_i hq
            cases h
            intro H locs lsA hP hS hE hl
            exact lv_icmp_ne' hC.hx hC.hb hd (Classical.not_not.mp hq) (kk H locs lsA hP hS hE hl)
        case lt =>
          simp only [xcb, decide_eq_true_eq] at h
          split at h
          · rename_i hq
            refine g_off (i := .nop) (k := 0) hC h (fun tgt ht kt => ?_) kk
            intro H locs lsA hP hS hE hl
            exact lv_icmp_lt hC.hx hC.hb hd ht (fun _ => kt H locs lsA hP hS hE hl) (fun hn => absurd hq hn)
          · rename_i hq
            cases h
            intro H locs lsA hP hS hE hl
            exact lv_icmp_lt' hC.hx hC.hb hd hq (kk H locs lsA hP hS hE hl)
        case ge =>
          simp only [xcb, decide_eq_true_eq] at h
          split at h
          · rename_i hq
            refine g_off (i := .nop) (k := 0) hC h (fun tgt ht kt => ?_) kk
            intro H locs lsA hP hS hE hl
            exact lv_icmp_ge hC.hx hC.hb hd ht (fun _ => kt H locs lsA hP hS hE hl) (fun hn => absurd hq hn)
          · rename_i hq
            cases h
            intro H locs lsA hP hS hE hl
            exact lv_icmp_ge' hC.hx hC.hb hd hq (kk H locs lsA hP hS hE hl)
        case gt =>
          simp only [xcb, decide_eq_true_eq] at h
          split at h
          · rename_i hq
            refine g_off (i := .nop) (k := 0) hC h (fun tgt ht kt => ?_) kk
            intro H locs lsA hP hS hE hl
            exact lv_icmp_gt hC.hx hC.hb hd ht (fun _ => kt H locs lsA hP hS hE hl) (fun hn => absurd hq hn)
          · rename_i hq
            cases h
            intro H locs lsA hP hS hE hl
            exact lv_icmp_gt' hC.hx hC.hb hd hq (kk H locs lsA hP hS hE hl)
        case le =>
          simp only [xcb, decide_eq_true_eq] at h
          split at h
          · rename_i hq
            refine g_off (i := .nop) (k := 0) hC h (fun tgt ht kt => ?_) kk
            intro H locs lsA hP hS hE hl
            exact lv_icmp_le hC.hx hC.hb hd ht (fun _ => kt H locs lsA hP hS hE hl) (fun hn => absurd hq hn)
          · rename_i hq
            cases h
            intro H locs lsA hP hS hE hl
            exact lv_icmp_le' hC.hx hC.hb hd hq (kk H locs lsA hP hS hE hl)
      · cases h
    · cases h
  case goto off =>
    simp only [xdo, xgo] at h
    split at h
    · rename_i hk
      subst hk
      exact g_off (i := .nop) (k := 0) hC h (fun tgt ht kt H locs lsA hP hS hE hl => lv_goto hC.hx hC.hb hd ht (kt H locs lsA hP hS hE hl)) kk
    · cases h
  case tableswitch dd lo hi offs =>
    simp only [xdo, xgo] at h
    split at h
    · split at h
      · rename_i hq
        exact g_off (i := .nop) (k := 0) hC h (fun tgt ht kt H locs lsA hP hS hE hl => lv_tableOut hC.hx hC.hb hd hq ht (kt H locs lsA hP hS hE hl)) kk
      · rename_i hq
        split at h
        · rename_i off ho
          exact g_off (i := .nop) (k := 0) hC h (fun tgt ht kt H locs lsA hP hS hE hl => lv_tableIn hC.hx hC.hb hd (fun z => hq (Or.inl z)) (fun z => hq (Or.inr z)) ho ht (kt H locs lsA hP hS hE hl)) kk
        · cases h
    · cases h
  case lookupswitch dd ps =>
    simp only [xdo, xgo] at h
    split at h
    · split at h
      · rename_i hq
        exact g_off (i := .nop) (k := 0) hC h (fun tgt ht kt H locs lsA hP hS hE hl => lv_lookup hC.hx hC.hb hd hq rfl ht (kt H locs lsA hP hS hE hl)) kk
      · cases h
    · cases h
  case ldc x =>
    simp only [xdo, xgo] at h
    split at h
    · rename_i hk
      subst hk
      split at h
      · rename_i v hv
        cases h
        exact fun H locs lsA hP hS hE hl => lv_ldc hC.hx hC.hb hC.hown (hC.hts _ (xIt_ok _ (xassoc_mem hv))) hd (kk H locs lsA hP hS hE hl)
      · cases h
    · cases h
  case ldc_w x =>
    simp only [xdo, xgo] at h
    split at h
    · rename_i hk
      subst hk
      split at h
      · rename_i v hv
        cases h
        exact fun H locs lsA hP hS hE hl => lv_ldcw hC.hx hC.hb hC.hown (hC.hts _ (xIt_ok _ (xassoc_mem hv))) hd (kk H locs lsA hP hS hE hl)
      · cases h
    · cases h
  case ldc2_w x =>
    simp only [xdo, xgo] at h
    split at h
    · rename_i hk
      subst hk
      split at h
      · rename_i v hv
        cases h
        exact fun H locs lsA hP hS hE hl => lv_ldc2 hC.hx hC.hb hC.hown (hC.hts _ (xJt_ok _ (xassoc_mem hv))) hd (kk H locs lsA hP hS hE hl)
      · cases h
    · cases h
  case getfield x =>
    simp only [xdo, xgo] at h
    split at h
    · rename_i hk
      subst hk
      split at h
      · split at h
        · rename_i kd j hf
          split at h
          · rename_i hkd
            cases h
            exact g_getfield hC hf hkd hd kk
          · cases h
        · cases h
      · cases h
    · cases h
  case putfield x =>
    simp only [xdo, xgo] at h
    split at h
    · rename_i hk
      subst hk
      split at h
      · rename_i kd j hf
        split at h
        · split at h
          · rename_i hq
            cases h
            exact g_putI hC hf hq.1 hq.2.1 hq.2.2.1 hq.2.2.2 hd kk
          · cases h
        · split at h
          · rename_i hq
            cases h
            exact g_putR hC hf hq.1 hq.2.1 hq.2.2.1 hq.2.2.2.1 hq.2.2.2.2 hd kk
          · cases h
        · cases h
      · cases h
    · cases h
  case getstatic x =>
    simp only [xdo, xgo] at h
    split at h
    · rename_i hk
      subst hk
      split at h
      · rename_i hf
        cases h
        exact g_static hC hf (Or.inl ⟨rfl, rfl⟩) hd kk
      · rename_i hf
        cases h
        exact g_static hC hf (Or.inr ⟨rfl, rfl⟩) hd kk
      · cases h
    · cases h
  case iaload =>
    simp only [xdo, xgo] at h
    split at h
    · rename_i hk
      subst hk
      split at h
      · split at h
        · rename_i hq
          cases h
          exact g_iaload hC hq.1 hq.2 hd kk
        · cases h
      · cases h
    · cases h
  case baload =>
    simp only [xdo, xgo] at h
    split at h
    · rename_i hk
      subst hk
      split at h
      · split at h
        · rename_i hq
          cases h
          exact g_baload hC hq.1 hq.2 hd kk
        · cases h
      · cases h
    · cases h
  case caload =>
    simp only [xdo, xgo] at h
    split at h
    · rename_i hk
      subst hk
      split at h
      · split at h
        · rename_i hq
          cases h
          exact g_caload hC hq.1 hq.2 hd kk
        · cases h
      · cases h
    · cases h
  case aaload =>
    simp only [xdo, xgo] at h
    split at h
    · rename_i hk
      subst hk
      split at h
      · split at h
        · rename_i hq
          cases h
          exact g_aaload hC hq.1 hq.2 hd kk
        · cases h
      · cases h
    · cases h
  case iastore =>
    simp only [xdo, xgo] at h
    split at h
    · rename_i hk
      subst hk
      split at h
      · split at h
        · rename_i hq
          cases h
          exact g_iastore hC hq.1 hq.2 hd kk
        · cases h
      · cases h
    · cases h
  case bastore =>
    simp only [xdo, xgo] at h
    split at h
    · rename_i hk
      subst hk
      split at h
      · split at h
        · rename_i hq
          cases h
          exact g_bastore hC hq.1 hq.2 hd kk
        · cases h
      · cases h
    · cases h
  case castore =>
    simp only [xdo, xgo] at h
    split at h
    · rename_i hk
      subst hk
      split at h
      · split at h
        · rename_i hq
          cases h
          exact g_castore hC hq.1 hq.2 hd kk
        · cases h
      · cases h
    · cases h
  case aastore =>
    simp only [xdo, xgo] at h
    split at h
    · rename_i hk
      subst hk
      split at h
      · split at h
        · rename_i hq
          cases h
          exact g_aastore hC hq.1 hq.2 hd kk
        · cases h
      · cases h
    · cases h
  case arraylength =>
    simp only [xdo, xgo] at h
    split at h
    · rename_i hk
      subst hk
      split at h
      · split at h
        · rename_i hq
          cases h
          exact g_alen hC hq hd kk
        · cases h
      · cases h
    · cases h
  case newarray t =>
    simp only [xdo, xgo] at h
    split at h
    · rename_i hk
      subst hk
      split at h
      · split at h
        · cases h
        · rename_i hn
          split at h
          · rename_i hn2
            split at h
            · cases h
              exact g_newarr hC hT hZ (Or.inl ⟨rfl, rfl⟩) hn hn2 hrm hd kk
            · cases h
              exact g_newarr hC hT hZ (Or.inr (Or.inl ⟨rfl, rfl⟩)) hn hn2 hrm hd kk
            · cases h
              exact g_newarr hC hT hZ (Or.inr (Or.inr ⟨rfl, rfl⟩)) hn hn2 hrm hd kk
            · cases h
          · cases h
      · cases h
    · cases h
  case anewarray x =>
    simp only [xdo, xgo] at h
    split at h
    · rename_i hk
      subst hk
      split at h
      · split at h
        · cases h
        · rename_i hn
          split at h
          · rename_i hn2
            split at h
            · rename_i hf
              cases h
              exact g_anewarr hC hT hZ hf (Or.inl ⟨rfl, rfl⟩) hn hn2 hrm hd kk
            · rename_i hf
              cases h
              exact g_anewarr hC hT hZ hf (Or.inr ⟨rfl, rfl⟩) hn hn2 hrm hd kk
            · cases h
          · cases h
      · cases h
    · cases h
  case new x =>
    simp only [xdo, xgo] at h
    split at h
    · rename_i hk
      subst hk
      split at h
      · rename_i ci hf
        cases h
        exact g_new hC hT hZ hf hrm hd kk
      · cases h
    · cases h
  case invokestatic x =>
    simp only [xdo, xgo] at h
    split at h
    · rename_i hk
      subst hk
      split at h
      · exfalso; unfold xcall at h; split at h <;> cases h
      · exfalso; unfold xcall at h; split at h <;> cases h
      · cases h
      · split at h
        · rename_i hf
          split at h
          · split at h
            · rename_i hq
              cases h
              exact g_max hC hf hq.1 hq.2 hrm hd kk
            · cases h
          · cases h
        · cases h
        · split at h
          · rename_i hf
            split at h
            · split at h
              · rename_i hq
                cases h
                exact g_copy hC hf hq.1 hq.2.1 hq.2.2.1.1 hq.2.2.1.2.1 hq.2.2.1.2.2 hq.2.2.2.1 hq.2.2.2.2.1 hq.2.2.2.2.2.1 hq.2.2.2.2.2.2 hd kk
              · cases h
            · cases h
          · cases h
    · cases h
  case invokespecial x =>
    simp only [xdo, xgo] at h
    split at h
    · rename_i hk
      subst hk
      split at h
      · exfalso
        split at h
        · unfold xcall at h; split at h <;> cases h
        · cases h
      · exfalso
        split at h
        · unfold xcall at h; split at h <;> cases h
        · cases h
      · cases h
      · split at h
        · rename_i hf
          split at h
          · split at h
            · rename_i hq
              cases h
              exact g_objInit hC hf hq.1 hq.2 hd kk
            · cases h
          · cases h
        · cases h
    · cases h
  case invokevirtual x =>
    simp only [xdo, xgo] at h
    exfalso
    split at h
    · split at h
      · split at h
        · split at h
          · unfold xcall at h; split at h <;> cases h
          · cases h
        · cases h
      · cases h
    · cases h
  case ireturn =>
    simp only [xdo, xgo] at h
    exfalso
    repeat' (split at h)
    all_goals cases h
  case lreturn =>
    simp only [xdo, xgo] at h
    exfalso
    repeat' (split at h)
    all_goals cases h
  case areturn =>
    simp only [xdo, xgo] at h
    exfalso
    repeat' (split at h)
    all_goals cases h
  case return_ =>
    simp only [xdo, xgo] at h
    exfalso
    repeat' (split at h)
    all_goals cases h
  all_goals (simp only [xdo] at h; cases h)
end XDI
end
section
/-! ===== calls, returns, and every method ===== -/
theorem xstep_T {E : Nat × Nat × Nat} {mm : xM} {pc pc' : Nat} {ls ls' : List (Option Value)} {st st' : List Value} {S S' : xSh} {V V' : xV} (h : xstep E mm pc ls st S V = some (.inl (pc', ls', st', S', V'))) : S.2.1 ≤ S'.2.1 ∧ S.2.2 ≤ S'.2.2 := by
  unfold xstep at h
  cases hd : decode mm.2.1 pc with
  | error x => rw [hd] at h; cases h
  | ok ik =>
  obtain ⟨i, k⟩ := ik
  rw [hd] at h
  dsimp only at h
  cases i <;> simp only [xdo, xgo, xoff, xcall] at h <;> (repeat' split at h) <;> first
    | (cases h; done)
    | (cases h; exact ⟨Nat.le_refl _, Nat.le_refl _⟩)
    | (cases h; exact ⟨Nat.le_succ _, Nat.le_add_right _ _⟩)
theorem xrun_T {E : Nat × Nat × Nat} : ∀ (n : Nat) {mm : xM} {pc : Nat} {ls : List (Option Value)} {st : List Value} {S : xSh} {V : xV} {r : Option Value × xSh × xV}, xrun E n mm pc ls st S V = some r → S.2.1 ≤ r.2.1.2.1 ∧ S.2.2 ≤ r.2.1.2.2 := by
  intro n
  induction n with
  | zero => intro mm pc ls st S V r h; cases h
  | succ n ih =>
    intro mm pc ls st S V r h
    rw [xrun] at h
    cases hs : xstep E mm pc ls st S V with
    | none => rw [hs] at h; cases h
    | some q =>
      rw [hs] at h
      obtain ⟨pc', ls', st', S', V'⟩ | v | ⟨y, as, rest⟩ := q
      · have h1 := xstep_T hs
        have h2 := ih h
        exact ⟨Nat.le_trans h1.1 h2.1, Nat.le_trans h1.2 h2.2⟩
      · cases h
        exact ⟨Nat.le_refl _, Nat.le_refl _⟩
      · dsimp only at h
        cases hc : xrun E n y 0 (xlocs y.2.2.1 as) [] S V with
        | none => rw [hc] at h; cases h
        | some r1 =>
          rw [hc] at h
          have h1 := ih hc
          have h2 := ih h
          exact ⟨Nat.le_trans h1.1 h2.1, Nat.le_trans h1.2 h2.2⟩
section XCL
variable {cy : Nat → ClassId} {D : va_G} {Bs : Nat} {E : Nat × Nat × Nat} {p : Program} {l : Launch} {e : Env} {R : Room} {s : State} {m : MethodId} {args : Array Value} {below : List Frame} {meth : Method} {c : Code} {Q : State → Prop} {mm : xM} {T0 Z0 : Nat} {pc : Nat} {ls : List (Option Value)} {st : List Value} {S : xSh} {V : xV}
theorem xblind (as : List Value) (S : xSh) (V : xV) : FrameBlind (va_Pc as (xPic cy D Bs E S V)) := by
  intro a U g mk h
  obtain ⟨h1, hP, hK, hE, hO, hB⟩ := h
  exact ⟨h1, hP, va_K.moved (u := U) (U := U.calling g mk a) (Vm.Alike.refl U.vm) hK, xEx.moved (u := U) (U := U.calling g mk a) (Vm.Alike.refl U.vm) hE, xSo.same (u := U) (U := U.calling g mk a) rfl hO, hB⟩
theorem xpic_at (hC : xCx cy D Bs E p R s m args meth c mm) {H : Heap} {locs : List Loc} (hP : xP cy D Bs S V H) (hS : va_S (xA Bs) s.heap H locs) (hE : xEx Bs S V s s.heap) {U : State} (hU : U.heap = H) (hW : s.WarmedH U.vm) : xPic cy D Bs E S V U := by
  subst hU
  exact ⟨hP, hC.hK.moved hW.alike, (hE.kept hS.2.1).moved hW.alike, (hC.hO.kept hS.2.1).warm hW, Nat.le_trans hC.hB hS.1⟩
theorem xgood {y : xM} (h : xMok y) : GoodIn xws0 (xwsOf y) := by
  intro w hw
  rcases List.mem_cons.mp hw with rfl | hw
  · exact xws0_good _ h.1
  · exact xws0_good _ hw
theorem xCB (hC : xCx cy D Bs E p R s m args meth c mm) {y : xM} (hok : xMok y) {n : Nat} (hpd : (parseMethodDescriptor y.1.desc).map (fun d => d.parameters.length) = some n) (hht : xht y < xht mm) (mc ms : Nat) :
    ((xrm (xht y) mc ms).cells = mc ∧ (xrm (xht y) mc ms).slots = ms ∧ (xrm (xht y) mc ms).frames + 1 ≤ R.frames ∧ 8 + (y.2.2.1 + 11) + (xrm (xht y) mc ms).locals ≤ R.locals ∧ (∀ w ∈ xwsOf y, ∀ (a' : Array Value) (U : State), s.WarmedH U.vm → w.before a' U = true) ∧ Cond.code y.1 y.2.1 y.2.2.1 y.2.2.2.1 ∈ xwsOf y) ∧
    (Cond.code y.1 y.2.1 y.2.2.1 y.2.2.2.1).before args s = true ∧ (Cond.initialized y.1.cls).before args s = true ∧ (y.1.cls ≠ "java/lang/invoke/MethodHandle" ∧ y.1.cls ≠ "java/lang/invoke/VarHandle") ∧ (∀ sig, parseMethodDescriptor y.1.desc = some sig → n = sig.parameters.length) := by
  obtain ⟨h1, h2, h3, h4, h5, h6⟩ := id hok
  have hfr := hC.hfr
  have hlo := hC.hlo
  refine ⟨⟨rfl, rfl, by show xht y + 1 ≤ _; omega, by show 8 + (y.2.2.1 + 11) + 34 * xht y ≤ _; omega, pay_in hC.hts (xgood hok), List.mem_cons_self⟩, hC.hts _ h1, hC.hts _ h2, h3, fun sig h => ?_⟩
  rw [h] at hpd
  exact (Option.some.inj hpd).symm
/-- behind a call -/
theorem xrun_call (hC : xCx cy D Bs E p R s m args meth c mm) {as : List Value} {H : Heap} {locs : List Loc} {lsA : Array Slot} {st0 rest : List Value} {mc ms cells slots : Nat} {r : Option Value × xSh × xV} {a : Array Value} (hr : va_Run p l e R s m args below meth c H locs cells slots mc ms (F0 m pc lsA st0) rest (xQ cy D Bs E r a) (xA Bs)) (hS : va_S (xA Bs) s.heap H locs)
    (kk : ∀ (H1 : Heap) (locs1 : List Loc), xP cy D Bs r.2.1 r.2.2 H1 → va_S (xA Bs) s.heap H1 locs1 → xEx Bs r.2.1 r.2.2 s s.heap → W p l e R s m args below meth c H1 locs1 (cells + mc) (slots + ms) Q (F0 m (pc + 3) lsA (r.1.toList ++ rest))) : W p l e R s m args below meth c H locs cells slots Q (F0 m pc lsA st0) := by
  intro T hT X
  obtain ⟨v, st₀, t, T', L, h0, X', hL, e1, e2, ⟨hv, ⟨hP, hK, hE, hO, hB⟩, hz, hk⟩, st⟩ := hr T hT X
  cases hv
  rw [h0] at hz hk
  have hal : t.vm.Alike s.vm := by rw [← e2]; exact X'.warmed.alike.symm
  have hS1 : va_S (xA Bs) s.heap T'.heap (locs ++ L) := ⟨Nat.le_trans hS.1 (by rw [e1]; exact hz), fun q h1 h2 => by rw [e1, hk q (Nat.lt_of_lt_of_le h1 hS.1) h2]; exact hS.2.1 q h1 h2, fun q hq => by
      rcases List.mem_append.mp hq with h | h
      · exact hS.2.2 q h
      · exact hL q h⟩
  have hE1 : xEx Bs r.2.1 r.2.2 s s.heap := by
    refine (hE.moved hal).kept (fun q h1 h2 => ?_)
    have hlt : q < s.heap.size := Nat.lt_of_lt_of_le (Nat.lt_of_not_le h2) hC.hB
    rw [← e1]
    exact (hS1.2.1 q hlt h2).symm
  obtain ⟨t2, a1, b1⟩ := kk T'.heap (locs ++ L) (by rw [e1]; exact hP) hS1 hE1 T' rfl X'
  exact ⟨t2, st t2 a1, b1⟩
/-- what a call's step says of the callee -/
theorem xcall_eq {y y' : xM} {n : Nat} {as as' rest rest' : List Value} (h : xcall mm y n as rest st = some (.inr (.inr (y', as', rest')))) : y = y' ∧ as = as' ∧ rest = rest' ∧ n ≤ st.length ∧ xcat rest ≤ 8 ∧ xht y < xht mm ∧ (xargs as).length ≤ y.2.2.1 := by
  unfold xcall at h
  split at h
  · rename_i hq
    cases h
    exact ⟨rfl, rfl, rfl, hq⟩
  · cases h
theorem xcall_ok (hC : xCx cy D Bs E p R s m args meth c mm) (hT : T0 ≤ S.2.1) (hZ : Z0 ≤ S.2.2) {y : xM} {as rest : List Value} (h : xstep E mm pc ls st S V = some (.inr (.inr (y, as, rest)))) :
    xMok y ∧ xht y < xht mm ∧ (xargs as).length ≤ y.2.2.1 ∧ ∀ {r : Option Value × xSh × xV}, xMet l cy D Bs E y as S V r → S.2.1 ≤ r.2.1.2.1 → S.2.2 ≤ r.2.1.2.2 → r.2.1.2.1 - T0 ≤ R.cells ∧ r.2.1.2.2 - Z0 ≤ R.slots → xG cy D Bs p l e R s m args below meth c Q mm.2.2.1 T0 Z0 (pc + 3) ls (r.1.toList ++ rest) r.2.1 r.2.2 → xG cy D Bs p l e R s m args below meth c Q mm.2.2.1 T0 Z0 pc ls st S V := by
  unfold xstep at h
  cases hd : decode mm.2.1 pc with
  | error x => rw [hd] at h; cases h
  | ok ik =>
  obtain ⟨i, k⟩ := ik
  rw [hd] at h
  dsimp only at h
  have arith : ∀ {r : Option Value × xSh × xV}, S.2.1 ≤ r.2.1.2.1 → S.2.2 ≤ r.2.1.2.2 → S.2.1 - T0 + (r.2.1.2.1 - S.2.1) = r.2.1.2.1 - T0 ∧ S.2.2 - Z0 + (r.2.1.2.2 - S.2.2) = r.2.1.2.2 - Z0 := fun h1 h2 => ⟨by omega, by omega⟩
  cases i
  case invokevirtual x =>
    simp only [xdo] at h
    split at h
    · rename_i hk
      subst hk
      split at h
      · rename_i y0 n hf
        split at h
        · rename_i b rest0 hdr
          split at h
          · rename_i hkd
            obtain ⟨rfl, rfl, rfl, hn, hct, hht, hln⟩ := xcall_eq h
            obtain ⟨hok, hpd, h0, -⟩ := xCt_ok _ (xassoc_mem hf)
            dsimp only at hok hpd h0
            obtain ⟨w1, w2, w3, w4⟩ := h0 rfl
            refine ⟨hok, hht, hln, fun {r} hM m1 m2 hrm kk H locs lsA hP hS hE hl => ?_⟩
            obtain ⟨⟨c1, c2, c3, c4, c5, c6⟩, c7, c8, c9, c10⟩ := xCB hC hok hpd hht (r.2.1.2.1 - S.2.1) (r.2.1.2.2 - S.2.2)
            obtain ⟨a1, a2⟩ := arith m1 m2
            have hst : st = (st.take n).reverse.reverse ++ .ref b :: rest0 := by rw [List.reverse_reverse, ← hdr, List.take_append_drop]
            have hrecv : ∃ cellB : Cell, H[b]? = some cellB ∧ cellB.vm.isStatics = false ∧ s.vm.findClass y0.1.cls = some cellB.cls := by
              rw [hok.2.2.2.1]
              · have hkd2 : xkd S b = xown y0 + 1 := by rw [hkd]; unfold xkdo; rw [if_neg (by omega)]
                obtain ⟨cell, q1, q2, q3, -⟩ := (hP.2 b).2.1 (by omega) (by omega)
                rw [hkd2] at q2
                obtain ⟨hc, -⟩ := xkf (xown y0 + 1) (by omega) (by omega)
                rw [Nat.add_sub_cancel] at q2 hc
                exact ⟨cell, q1, by rw [q3]; rfl, by rw [q2]; exact (hC.hK.1 _ _ hc).2.1⟩
            refine xrun_call (as := .ref b :: (st.take n).reverse) hC (va_runV (As := (st.take n).reverse) (rest := rest0) (nL := mm.2.2.1) (n := n) (C := y0.1.cls) (own := xcn (xown mm)) (Ts := xws0) (maxL := y0.2.2.1) (bytes := y0.2.1) (ret := y0.2.2.2.1) ⟨hC.hx, hC.hb, hC.hml, hC.hown, hC.hts⟩ hM ⟨⟨c1, c2, c3, c4, c5, c6, c7, c8, c9, c10, hC.hts _ w1⟩, hC.hts _ w2, hC.hts _ w3⟩ ⟨xblind _ _ _, hrecv, fun U hU hW => ⟨rfl, xpic_at hC hP hS hE hU hW⟩⟩ rfl (by rw [List.length_reverse, List.length_take]; omega) hl.2.1 hst (lv_room hct) hd (by rw [a1, a2]; exact hrm)) hS (fun H1 locs1 g1 g2 g3 => ?_)
            rw [a1, a2]
            exact kk H1 locs1 lsA g1 g2 g3 hl
          · cases h
        · cases h
      · cases h
    · cases h
  case invokestatic x =>
    simp only [xdo] at h
    split at h
    · rename_i hk
      subst hk
      split at h
      · rename_i y0 n hf
        obtain ⟨rfl, rfl, rfl, hn, hct, hht, hln⟩ := xcall_eq h
        obtain ⟨hok, hpd, -, h0, -⟩ := xCt_ok _ (xassoc_mem hf)
        dsimp only at hok hpd h0
        obtain ⟨w1, w2⟩ := h0 rfl
        refine ⟨hok, hht, hln, fun {r} hM m1 m2 hrm kk H locs lsA hP hS hE hl => ?_⟩
        obtain ⟨⟨c1, c2, c3, c4, c5, c6⟩, c7, c8, c9, c10⟩ := xCB hC hok hpd hht (r.2.1.2.1 - S.2.1) (r.2.1.2.2 - S.2.2)
        obtain ⟨a1, a2⟩ := arith m1 m2
        have hst : st = (st.take n).reverse.reverse ++ st.drop n := by rw [List.reverse_reverse, List.take_append_drop]
        refine xrun_call (as := (st.take n).reverse) hC (va_runS (As := (st.take n).reverse) (rest := st.drop n) (nL := mm.2.2.1) (n := n) (own := xcn (xown mm)) (Ts := xws0) (maxL := y0.2.2.1) (bytes := y0.2.1) (ret := y0.2.2.2.1) ⟨hC.hx, hC.hb, hC.hml, hC.hown, hC.hts⟩ hM ⟨⟨c1, c2, c3, c4, c5, c6, c7, c8, c9, c10, hC.hts _ w1⟩, hC.hts _ w2⟩ ⟨xblind _ _ _, fun U hU hW => ⟨rfl, xpic_at hC hP hS hE hU hW⟩⟩ rfl (by rw [List.length_reverse, List.length_take]; omega) hl.2.1 hst (lv_room hct) hd (by rw [a1, a2]; exact hrm)) hS (fun H1 locs1 g1 g2 g3 => ?_)
        rw [a1, a2]
        exact kk H1 locs1 lsA g1 g2 g3 hl
      · rename_i y0 n hf
        obtain ⟨rfl, rfl, rfl, hn, hct, hht, hln⟩ := xcall_eq h
        obtain ⟨hok, hpd, -, -, -, h0, -⟩ := xCt_ok _ (xassoc_mem hf)
        dsimp only at hok hpd h0
        obtain ⟨w1, w2⟩ := h0 rfl
        refine ⟨hok, hht, hln, fun {r} hM m1 m2 hrm kk H locs lsA hP hS hE hl => ?_⟩
        obtain ⟨⟨c1, c2, c3, c4, c5, c6⟩, c7, c8, c9, c10⟩ := xCB hC hok hpd hht (r.2.1.2.1 - S.2.1) (r.2.1.2.2 - S.2.2)
        obtain ⟨a1, a2⟩ := arith m1 m2
        have hst : st = (st.take n).reverse.reverse ++ st.drop n := by rw [List.reverse_reverse, List.take_append_drop]
        refine xrun_call (as := (st.take n).reverse) hC (va_runSN (As := (st.take n).reverse) (rest := st.drop n) (nL := mm.2.2.1) (n := n) (own := xcn (xown mm)) (host := "TurnSlots") (Ts := xws0) (maxL := y0.2.2.1) (bytes := y0.2.1) (ret := y0.2.2.2.1) ⟨hC.hx, hC.hb, hC.hml, hC.hown, hC.hts⟩ hM ⟨⟨⟨c1, c2, c3, c4, c5, c6⟩, c7, c8, c9, c10, va_Nw.use rfl (hC.hO.2.2.2.2.2.2 _ w1)⟩, hC.hts _ w2, trivial⟩ ⟨xblind _ _ _, fun U hU hW => ⟨rfl, xpic_at hC hP hS hE hU hW⟩⟩ rfl (by rw [List.length_reverse, List.length_take]; omega) hl.2.1 hst (lv_room hct) hd (by rw [a1, a2]; exact hrm)) hS (fun H1 locs1 g1 g2 g3 => ?_)
        rw [a1, a2]
        exact kk H1 locs1 lsA g1 g2 g3 hl
      · cases h
      · exfalso
        unfold xgo at h
        repeat' (split at h)
        all_goals cases h
    · cases h
  case invokespecial x =>
    simp only [xdo] at h
    split at h
    · rename_i hk
      subst hk
      split at h
      · rename_i y0 n hf
        split at h
        · rename_i b rest0 hdr
          obtain ⟨rfl, rfl, rfl, hn, hct, hht, hln⟩ := xcall_eq h
          obtain ⟨hok, hpd, -, -, h0, -⟩ := xCt_ok _ (xassoc_mem hf)
          dsimp only at hok hpd h0
          obtain ⟨w1, w2, w3, w4⟩ := h0 rfl
          refine ⟨hok, hht, hln, fun {r} hM m1 m2 hrm kk H locs lsA hP hS hE hl => ?_⟩
          obtain ⟨⟨c1, c2, c3, c4, c5, c6⟩, c7, c8, c9, c10⟩ := xCB hC hok hpd hht (r.2.1.2.1 - S.2.1) (r.2.1.2.2 - S.2.2)
          obtain ⟨a1, a2⟩ := arith m1 m2
          rw [w4] at c6 c7
          have hst : st = (st.take n).reverse.reverse ++ .ref b :: rest0 := by rw [List.reverse_reverse, ← hdr, List.take_append_drop]
          refine xrun_call (as := .ref b :: (st.take n).reverse) hC (va_runI (As := (st.take n).reverse) (rest := rest0) (nL := mm.2.2.1) (n := n) (own := xcn (xown mm)) (Ts := xws0) (maxL := y0.2.2.1) (bytes := y0.2.1) ⟨hC.hx, hC.hb, hC.hml, hC.hown, hC.hts⟩ hM ⟨⟨c1, c2, c3, c4, c5, c6, c7, c8, c9, c10, hC.hts _ w1⟩, w3, hC.hts _ w2⟩ ⟨xblind _ _ _, fun U hU hW => ⟨rfl, xpic_at hC hP hS hE hU hW⟩⟩ rfl (by rw [List.length_reverse, List.length_take]; omega) hl.2.1 hst (lv_room hct) hd (by rw [a1, a2]; exact hrm)) hS (fun H1 locs1 g1 g2 g3 => ?_)
          rw [a1, a2]
          exact kk H1 locs1 lsA g1 g2 g3 hl
        · cases h
      · rename_i y0 n hf
        split at h
        · rename_i b rest0 hdr
          obtain ⟨rfl, rfl, rfl, hn, hct, hht, hln⟩ := xcall_eq h
          obtain ⟨hok, hpd, -, -, -, -, h0⟩ := xCt_ok _ (xassoc_mem hf)
          dsimp only at hok hpd h0
          obtain ⟨w1, w2, w3, w4⟩ := h0 rfl
          refine ⟨hok, hht, hln, fun {r} hM m1 m2 hrm kk H locs lsA hP hS hE hl => ?_⟩
          obtain ⟨⟨c1, c2, c3, c4, c5, c6⟩, c7, c8, c9, c10⟩ := xCB hC hok hpd hht (r.2.1.2.1 - S.2.1) (r.2.1.2.2 - S.2.2)
          obtain ⟨a1, a2⟩ := arith m1 m2
          rw [w4] at c6 c7
          have hst : st = (st.take n).reverse.reverse ++ .ref b :: rest0 := by rw [List.reverse_reverse, ← hdr, List.take_append_drop]
          refine xrun_call (as := .ref b :: (st.take n).reverse) hC (va_runIN (As := (st.take n).reverse) (rest := rest0) (nL := mm.2.2.1) (n := n) (own := xcn (xown mm)) (host := "TurnSlots") (Ts := xws0) (maxL := y0.2.2.1) (bytes := y0.2.1) ⟨hC.hx, hC.hb, hC.hml, hC.hown, hC.hts⟩ hM ⟨⟨⟨c1, c2, c3, c4, c5, c6⟩, c7, c8, c9, c10, va_Nw.use rfl (hC.hO.2.2.2.2.2.2 _ w1)⟩, w3, hC.hts _ w2⟩ ⟨xblind _ _ _, fun U hU hW => ⟨rfl, xpic_at hC hP hS hE hU hW⟩⟩ rfl (by rw [List.length_reverse, List.length_take]; omega) hl.2.1 hst (lv_room hct) hd (by rw [a1, a2]; exact hrm)) hS (fun H1 locs1 g1 g2 g3 => ?_)
          rw [a1, a2]
          exact kk H1 locs1 lsA g1 g2 g3 hl
        · cases h
      · cases h
      · exfalso
        unfold xgo at h
        repeat' (split at h)
        all_goals cases h
    · cases h
  all_goals (exfalso; simp only [xdo, xgo, xoff] at h; repeat' (split at h))
  all_goals cases h
/-- a method from any place: its run, given its calls and its return -/
theorem xrun_ok (hC : xCx cy D Bs E p R s m args meth c mm) {r : Option Value × xSh × xV}
    (hret : ∀ (pc : Nat) (ls : List (Option Value)) (st : List Value) (S : xSh) (V : xV) (v : Option Value), xstep E mm pc ls st S V = some (.inr (.inl v)) → (v, S, V) = r → xG cy D Bs p l e R s m args below meth c Q mm.2.2.1 T0 Z0 pc ls st S V)
    (hcall : ∀ (y : xM) (as : List Value) (S : xSh) (V : xV) (n : Nat) (r : Option Value × xSh × xV), xMok y → xht y < xht mm → (xargs as).length ≤ y.2.2.1 → xrun E n y 0 (xlocs y.2.2.1 as) [] S V = some r → xMet l cy D Bs E y as S V r)
    (hrm : r.2.1.2.1 - T0 ≤ R.cells ∧ r.2.1.2.2 - Z0 ≤ R.slots) : ∀ (n : Nat) (pc : Nat) (ls : List (Option Value)) (st : List Value) (S : xSh) (V : xV), xrun E n mm pc ls st S V = some r → T0 ≤ S.2.1 → Z0 ≤ S.2.2 → xG cy D Bs p l e R s m args below meth c Q mm.2.2.1 T0 Z0 pc ls st S V := by
  intro n
  induction n with
  | zero => intro pc ls st S V h; cases h
  | succ n ih =>
    intro pc ls st S V h hT hZ
    rw [xrun] at h
    cases hs : xstep E mm pc ls st S V with
    | none => rw [hs] at h; cases h
    | some q =>
      rw [hs] at h
      obtain ⟨pc', ls', st', S', V'⟩ | v | ⟨y, as, rest⟩ := q
      · have h1 := xstep_T hs
        have h2 := xrun_T n h
        dsimp only at h2
        exact xnext_ok hC hT hZ hs (by omega) (ih _ _ _ _ _ h (by omega) (by omega))
      · exact hret _ _ _ _ _ _ hs (Option.some.inj h)
      · dsimp only at h
        cases hc : xrun E n y 0 (xlocs y.2.2.1 as) [] S V with
        | none => rw [hc] at h; cases h
        | some r1 =>
          rw [hc] at h
          have h1 := xrun_T n hc
          have h2 := xrun_T n h
          obtain ⟨hok, hht, hln, k⟩ := xcall_ok (l := l) (e := e) (below := below) (Q := Q) hC hT hZ hs
          exact k (hcall y as S V n r1 hok hht hln hc) h1.1 h1.2 (by omega) (ih _ _ _ _ _ h (by omega) (by omega))
end XCL
/-- EVERY METHOD: what the pure machine computes of a call is a contract of the machine -/
theorem xsound (l : Launch) (cy : Nat → ClassId) (D : va_G) (Bs : Nat) (E : Nat × Nat × Nat) : ∀ (k : Nat) (y : xM), xht y < k → xMok y → ∀ (as : List Value) (S : xSh) (V : xV) (n : Nat) (r : Option Value × xSh × xV), (xargs as).length ≤ y.2.2.1 → xrun E n y 0 (xlocs y.2.2.1 as) [] S V = some r → xMet l cy D Bs E y as S V r := by
  intro k
  induction k with
  | zero => intro y h; omega
  | succ k ih =>
    intro y hk hok as S V n r hln hrun
    refine Met.ofW (cc := y.2.1) (maxL := y.2.2.1) (ret := y.2.2.2.1) hok.2.2.2.2.2 rfl ?_
    intro p e s m args below meth c s₁ B hml hv
    obtain ⟨rfl, hP, hK, hE, hO, hB⟩ := hv
    have hts0 := atoms_spec (ws := xwsOf y) B.pre
    have hown : s.vm.findClass (xcn (xown y)) = some m.cls := by rw [← hok.2.2.2.1]; exact findClass_of_methodNamed B.named
    have hC : xCx cy D Bs E p (headSpec (xwsOf y) (xrm (xht y) (r.2.1.2.1 - S.2.1) (r.2.1.2.2 - S.2.2))).room s m as.toArray meth c y :=
      ⟨B.exec, B.bytes, hml, hown, (fun _ => (name_of_methodNamed B.named B.method).1), fun w hw => hts0 w (List.mem_cons_of_mem _ hw), hK, hO, hB, Nat.le_refl _, Nat.le_refl _⟩
    have hr := B.returns
    have hlocks := B.notSynchronized
    rw [lg_entry_eq]
    have main := xrun_ok (l := l) (e := e) (below := below) (Q := MQ below (xQ cy D Bs E r) as.toArray s (r.2.1.2.1 - S.2.1) (r.2.1.2.2 - S.2.2) (xA Bs)) (T0 := S.2.1) (Z0 := S.2.2) hC (r := r) ?_ (fun y' as' S' V' n' r' hok' hht' hln' hrun' => ih y' (by omega) hok' as' S' V' n' r' hln' hrun') ⟨Nat.le_refl _, Nat.le_refl _⟩ n 0 (xlocs y.2.2.1 as) [] S V hrun (Nat.le_refl _) (Nat.le_refl _)
    · have k0 := main s.heap [] _ hP va_S.rf hE (xLo_entry as hln)
      rw [Nat.sub_self, Nat.sub_self] at k0
      exact k0
    · intro pc ls st S' V' v hs he
      subst he
      intro H locs lsA hP' hS' hE' hl'
      unfold xstep at hs
      cases hd : decode y.2.1 pc with
      | error x => rw [hd] at hs; cases hs
      | ok ik =>
      obtain ⟨i, kk⟩ := ik
      rw [hd] at hs
      dsimp only at hs
      cases i
      case ireturn =>
        simp only [xdo] at hs
        split at hs
        · rename_i hk1
          subst hk1
          split at hs
          · split at hs
            · rename_i ty hty
              split at hs
              · rename_i hn
                cases hs
                exact W.zret (ty := ty) hC.hx hC.hb (hr.trans hty) hn (fun t ht hW => ⟨rfl, xpic_at hC hP' hS' hE' ht hW, hS'.F ht⟩) hS'.2.2 hd hlocks
              · cases hs
            · cases hs
          · cases hs
        · cases hs
      case lreturn =>
        simp only [xdo] at hs
        split at hs
        · rename_i hk1
          subst hk1
          split at hs
          · split at hs
            · rename_i hty
              cases hs
              exact W.lret hC.hx hC.hb (hr.trans hty) (fun t ht hW => ⟨rfl, xpic_at hC hP' hS' hE' ht hW, hS'.F ht⟩) hS'.2.2 hd hlocks
            · cases hs
          · cases hs
        · cases hs
      case areturn =>
        simp only [xdo] at hs
        split at hs
        · rename_i hk1
          subst hk1
          split at hs
          · split at hs
            · rename_i o hty
              cases hs
              exact W.aret hC.hx hC.hb (hr.trans hty) (Or.inl ⟨_, rfl⟩) (Or.inr ⟨_, rfl⟩) (fun t ht hW => ⟨rfl, xpic_at hC hP' hS' hE' ht hW, hS'.F ht⟩) hS'.2.2 hd hlocks
            · rename_i o hty
              cases hs
              exact W.aret hC.hx hC.hb (hr.trans hty) (Or.inr ⟨_, rfl⟩) (Or.inr ⟨_, rfl⟩) (fun t ht hW => ⟨rfl, xpic_at hC hP' hS' hE' ht hW, hS'.F ht⟩) hS'.2.2 hd hlocks
            · cases hs
          · cases hs
        · cases hs
      case return_ =>
        simp only [xdo] at hs
        split at hs
        · rename_i hk1
          subst hk1
          split at hs
          · split at hs
            · rename_i hty
              cases hs
              exact W.vret hC.hx hC.hb (hr.trans hty) (fun t ht hW => ⟨rfl, xpic_at hC hP' hS' hE' ht hW, hS'.F ht⟩) hS'.2.2 hd hlocks
            · cases hs
          · cases hs
        · cases hs
      all_goals (exfalso; simp only [xdo, xgo, xoff, xcall] at hs; repeat' (split at hs))
      all_goals cases hs
end
section
/-! ===== the pure machine's instructions, as rewriting rules ===== -/
section XI
variable {E : Nat × Nat × Nat} {m : xM} {pc : Nat} {ls : List (Option Value)} {st : List Value} {S : xSh} {V : xV} {Q : Option Value → xSh → xV → Prop}
theorem xi {i : Instr} {k pc' : Nat} {ls' : List (Option Value)} {st' : List Value} {S' : xSh} {V' : xV} (hd : decode m.2.1 pc = .ok (i, k)) (hx : xdo E m i k pc ls st S V = some (.inl (pc', ls', st', S', V'))) : xX E m pc ls st S V Q ↔ xX E m pc' ls' st' S' V' Q :=
  xX_next (by rw [xstep, hd]; exact hx)
theorem xi_r {i : Instr} {k : Nat} {v : Option Value} (hd : decode m.2.1 pc = .ok (i, k)) (hx : xdo E m i k pc ls st S V = some (.inr (.inl v))) : xX E m pc ls st S V Q ↔ Q v S V :=
  xX_ret (by rw [xstep, hd]; exact hx)
theorem xi_off {off : Int} {tgt : Nat} (ht : (pc : Int) + off = (tgt : Int)) : xoff pc off ls st S V = some (.inl (tgt, ls, st, S, V)) := by
  unfold xoff xgo
  rw [ht, if_pos (Int.natCast_nonneg tgt), Int.toNat_natCast]
theorem xi_br {i : Instr} {k t1 t2 : Nat} {c : Prop} {d : Decidable c} {st0 : List Value} (hd : decode m.2.1 pc = .ok (i, k)) (h1 : c → xdo E m i k pc ls st0 S V = some (.inl (t1, ls, st, S, V))) (h2 : ¬ c → xdo E m i k pc ls st0 S V = some (.inl (t2, ls, st, S, V))) :
    xX E m pc ls st0 S V Q ↔ if c then xX E m t1 ls st S V Q else xX E m t2 ls st S V Q := by
  by_cases h : c
  · rw [if_pos h]; exact xi hd (h1 h)
  · rw [if_neg h]; exact xi hd (h2 h)
theorem xi_goto {off : Int} {tgt : Nat} (hd : decode m.2.1 pc = .ok (.goto off, 3)) (ht : (pc : Int) + off = (tgt : Int)) : xX E m pc ls st S V Q ↔ xX E m tgt ls st S V Q := xi hd (xi_off ht)
theorem xi_if {cc : Jvm.ClassFile.Cond} {off : Int} {tgt : Nat} {x : Int32} {c : Prop} {d : Decidable c} (hd : decode m.2.1 pc = .ok (.ifCond cc off, 3)) (ht : (pc : Int) + off = (tgt : Int)) (hc : xcb cc x 0 = true ↔ c) : xX E m pc ls (.int x :: st) S V Q ↔ if c then xX E m tgt ls st S V Q else xX E m (pc + 3) ls st S V Q :=
  xi_br hd (fun h => (if_pos (hc.mpr h)).trans (xi_off ht)) (fun h => if_neg (fun z => h (hc.mp z)))
theorem xi_icmp {cc : Jvm.ClassFile.Cond} {off : Int} {tgt : Nat} {x y : Int32} {c : Prop} {d : Decidable c} (hd : decode m.2.1 pc = .ok (.if_icmp cc off, 3)) (ht : (pc : Int) + off = (tgt : Int)) (hc : xcb cc x y = true ↔ c) : xX E m pc ls (.int y :: .int x :: st) S V Q ↔ if c then xX E m tgt ls st S V Q else xX E m (pc + 3) ls st S V Q :=
  xi_br hd (fun h => (if_pos (hc.mpr h)).trans (xi_off ht)) (fun h => if_neg (fun z => h (hc.mp z)))
theorem xcb_eq {x y : Int32} : xcb .eq x y = true ↔ x = y := decide_eq_true_iff
theorem xcb_ne {x y : Int32} : xcb .ne x y = true ↔ ¬ x = y := decide_eq_true_iff
theorem xcb_lt {x y : Int32} : xcb .lt x y = true ↔ x < y := decide_eq_true_iff
theorem xcb_ge {x y : Int32} : xcb .ge x y = true ↔ y ≤ x := decide_eq_true_iff
theorem xcb_gt {x y : Int32} : xcb .gt x y = true ↔ y < x := decide_eq_true_iff
theorem xcb_le {x y : Int32} : xcb .le x y = true ↔ x ≤ y := decide_eq_true_iff
/-- a local that is no long -/
def xnl (o : Option Value) : Bool := match o with
  | some v => v.category == 1
  | none => true
theorem xnl_n : xnl none = true := rfl
theorem xnl_i (x : Int32) : xnl (some (.int x)) = true := rfl
theorem xnl_r (x : Nat) : xnl (some (.ref x)) = true := rfl
theorem xst1_z (o : Option Value) (l : List (Option Value)) (v : Value) : xst1 (o :: l) 0 v = some v :: l := rfl
theorem xst1_s {ls : List (Option Value)} {j : Nat} {o : Option Value} (h : ls[j]? = some o) (ho : xnl o = true) (v : Value) : xst1 ls (j + 1) v = ls.set (j + 1) (some v) := by
  unfold xst1
  cases o with
  | none =>
    rw [xclr_none]
    unfold xlocAt
    rw [h]
  | some w =>
    have hw : w.category = 1 := by simpa [xnl] using ho
    rw [xclr_some (v := w) (xlocAt_iff.mpr h), if_neg (by omega)]
theorem xst2_s {ls : List (Option Value)} {j : Nat} {o : Option Value} (h : ls[j]? = some o) (ho : xnl o = true) (v : Value) : xst2 ls (j + 1) v = (ls.set (j + 1) (some v)).set (j + 2) none := by
  unfold xst2
  have h1 := xst1_s h ho v
  unfold xst1 at h1
  rw [h1]
theorem xi_st1 {i : Instr} {k j : Nat} {o : Option Value} {pc' : Nat} {v : Value} {st0 : List Value} {ls' : List (Option Value)} (hd : decode m.2.1 pc = .ok (i, k)) (hj : ls[j]? = some o) (ho : xnl o = true) (hx : xdo E m i k pc ls st0 S V = some (.inl (pc', xst1 ls (j + 1) v, st, S, V))) (hl : ls.set (j + 1) (some v) = ls') : xX E m pc ls st0 S V Q ↔ xX E m pc' ls' st S V Q := by
  rw [← hl, ← xst1_s hj ho v]
  exact xi hd hx
theorem xi_st2 {i : Instr} {k j : Nat} {o : Option Value} {pc' : Nat} {v : Value} {st0 : List Value} {ls' : List (Option Value)} (hd : decode m.2.1 pc = .ok (i, k)) (hj : ls[j]? = some o) (ho : xnl o = true) (hx : xdo E m i k pc ls st0 S V = some (.inl (pc', xst2 ls (j + 1) v, st, S, V))) (hl : (ls.set (j + 1) (some v)).set (j + 2) none = ls') : xX E m pc ls st0 S V Q ↔ xX E m pc' ls' st S V Q := by
  rw [← hl, ← xst2_s hj ho v]
  exact xi hd hx
/-! ints by their numbers -/
theorem xn_m : (-(1 : Int32)) = -1 := rfl
theorem xn_sub {a b : Nat} (h : b ≤ a) : nI a - nI b = nI (a - b) := pk_sub h
theorem xn_rem {a b : Nat} (ha : a < 2147483648) (h0 : 0 < b) (hb : b < 2147483648) : nI a - nI a / nI b * nI b = nI (a % b) := pk_rem ha h0 hb
theorem xn_31 : ∀ k : Nat, k < 32 → nI k &&& 31 = nI k := by decide +kernel
theorem xn_sm : ∀ k : Nat, k < 32 → ((nI k).toBitVec.smod 32).toNat = k := by decide +kernel
theorem xn_shl {a k : Nat} (hk : k < 32) (h : a * 2 ^ k < 4294967296) : nI a <<< (nI k &&& 31) = nI (a * 2 ^ k) := by
  rw [xn_31 k hk]
  exact pk_shlN (nI k) k (xn_sm k hk) h
theorem xn_shr {a k : Nat} (ha : a < 2147483648) (hk : k < 32) : nI a >>> (nI k &&& 31) = nI (a / 2 ^ k) := by
  rw [xn_31 k hk]
  exact pk_shrN ha (nI k) k (xn_sm k hk)
theorem xn_and (a b : Nat) : nI a &&& nI b = nI (a &&& b) := by
  apply Int32.toBitVec_inj.mp
  show (BitVec.ofNat 32 a) &&& (BitVec.ofNat 32 b) = BitVec.ofNat 32 (a &&& b)
  apply BitVec.eq_of_toNat_eq
  simp [Nat.and_mod_two_pow]
theorem xn_or (a b : Nat) : nI a ||| nI b = nI (a ||| b) := by
  apply Int32.toBitVec_inj.mp
  show (BitVec.ofNat 32 a) ||| (BitVec.ofNat 32 b) = BitVec.ofNat 32 (a ||| b)
  apply BitVec.eq_of_toNat_eq
  simp [Nat.or_mod_two_pow]
theorem xn_xor (a b : Nat) : nI a ^^^ nI b = nI (a ^^^ b) := by
  apply Int32.toBitVec_inj.mp
  show (BitVec.ofNat 32 a) ^^^ (BitVec.ofNat 32 b) = BitVec.ofNat 32 (a ^^^ b)
  apply BitVec.eq_of_toNat_eq
  simp [Nat.xor_mod_two_pow]
theorem xn_lt {a b : Nat} (ha : a < 2147483648) (hb : b < 2147483648) : (nI a < nI b) ↔ a < b := nI_ltI ha hb
theorem xn_le {a b : Nat} (ha : a < 2147483648) (hb : b < 2147483648) : (nI a ≤ nI b) ↔ a ≤ b := nI_leI ha hb
theorem xn_eq {a b : Nat} (ha : a < 2147483648) (hb : b < 2147483648) : (nI a = nI b) ↔ a = b := nI_eq ha hb
theorem xn_0 : (0 : Int32) = nI 0 := rfl
theorem xn_in {j n : Nat} (h : j < n) (hn : n < 2147483648) : ¬ (nI j < 0 ∨ n ≤ (nI j).toNatClampNeg) := nI_in h hn
theorem xn_cl {j : Nat} (h : j < 2147483648) : (nI j).toNatClampNeg = j := nI_clamp h
/-! cells -/
theorem xi_iald {a j : Nat} (hd : decode m.2.1 pc = .ok (.iaload, 1)) (hk : xkd S a = 7 ∨ xkd S a = 14) (h : j < xln S a) (hn : xln S a < 2147483648) : xX E m pc ls (.int (nI j) :: .ref a :: st) S V Q ↔ xX E m (pc + 1) ls (.int (V a j) :: st) S V Q :=
  xi hd (by show (if (1 : Nat) = 1 then (if (xkd S a = 7 ∨ xkd S a = 14) ∧ ¬ (nI j < 0 ∨ xln S a ≤ (nI j).toNatClampNeg) then xgo (pc + 1) ls (.int (V a (nI j).toNatClampNeg) :: st) S V else none) else none) = _; rw [if_pos rfl, if_pos ⟨hk, xn_in h hn⟩, xn_cl (by omega)]; rfl)
theorem xi_bald {a j : Nat} (hd : decode m.2.1 pc = .ok (.baload, 1)) (hk : xkd S a = 9 ∨ xkd S a = 12) (h : j < xln S a) (hn : xln S a < 2147483648) : xX E m pc ls (.int (nI j) :: .ref a :: st) S V Q ↔ xX E m (pc + 1) ls (.int (V a j) :: st) S V Q :=
  xi hd (by show (if (1 : Nat) = 1 then (if (xkd S a = 9 ∨ xkd S a = 12) ∧ ¬ (nI j < 0 ∨ xln S a ≤ (nI j).toNatClampNeg) then xgo (pc + 1) ls (.int (V a (nI j).toNatClampNeg) :: st) S V else none) else none) = _; rw [if_pos rfl, if_pos ⟨hk, xn_in h hn⟩, xn_cl (by omega)]; rfl)
theorem xi_cald {a j : Nat} (hd : decode m.2.1 pc = .ok (.caload, 1)) (hk : xkd S a = 8) (h : j < xln S a) (hn : xln S a < 2147483648) : xX E m pc ls (.int (nI j) :: .ref a :: st) S V Q ↔ xX E m (pc + 1) ls (.int (V a j) :: st) S V Q :=
  xi hd (by show (if (1 : Nat) = 1 then (if xkd S a = 8 ∧ ¬ (nI j < 0 ∨ xln S a ≤ (nI j).toNatClampNeg) then xgo (pc + 1) ls (.int (V a (nI j).toNatClampNeg) :: st) S V else none) else none) = _; rw [if_pos rfl, if_pos ⟨hk, xn_in h hn⟩, xn_cl (by omega)]; rfl)
theorem xi_aald {a j : Nat} (hd : decode m.2.1 pc = .ok (.aaload, 1)) (hk : xkd S a = 10 ∨ xkd S a = 11) (h : j < xln S a) (hn : xln S a < 2147483648) : xX E m pc ls (.int (nI j) :: .ref a :: st) S V Q ↔ xX E m (pc + 1) ls (va_rf (xrf S a j) :: st) S V Q :=
  xi hd (by show (if (1 : Nat) = 1 then (if (xkd S a = 10 ∨ xkd S a = 11) ∧ ¬ (nI j < 0 ∨ xln S a ≤ (nI j).toNatClampNeg) then xgo (pc + 1) ls (va_rf (xrf S a (nI j).toNatClampNeg) :: st) S V else none) else none) = _; rw [if_pos rfl, if_pos ⟨hk, xn_in h hn⟩, xn_cl (by omega)]; rfl)
theorem xi_iast {a j : Nat} {v : Int32} (hd : decode m.2.1 pc = .ok (.iastore, 1)) (hk : xkd S a = 7) (h : j < xln S a) (hn : xln S a < 2147483648) : xX E m pc ls (.int v :: .int (nI j) :: .ref a :: st) S V Q ↔ xX E m (pc + 1) ls st S (xup V a j v) Q :=
  xi hd (by show (if (1 : Nat) = 1 then (if xkd S a = 7 ∧ ¬ (nI j < 0 ∨ xln S a ≤ (nI j).toNatClampNeg) then xgo (pc + 1) ls st S (xup V a (nI j).toNatClampNeg v) else none) else none) = _; rw [if_pos rfl, if_pos ⟨hk, xn_in h hn⟩, xn_cl (by omega)]; rfl)
theorem xn_nb : ∀ b : Nat, b < 2 → vp_nar .boolean (nI b) = nI b := by decide +kernel
theorem xn_nb2 : ∀ b : Nat, b < 2 → narrow .boolean (.int (nI b)) = .int (nI b) := by decide +kernel
theorem xi_bast {a j b : Nat} (hd : decode m.2.1 pc = .ok (.bastore, 1)) (hk : xkd S a = 9) (h : j < xln S a) (hn : xln S a < 2147483648) (hb : b < 2) : xX E m pc ls (.int (nI b) :: .int (nI j) :: .ref a :: st) S V Q ↔ xX E m (pc + 1) ls st S (xup V a j (nI b)) Q :=
  xi hd (by show (if (1 : Nat) = 1 then (if xkd S a = 9 ∧ ¬ (nI j < 0 ∨ xln S a ≤ (nI j).toNatClampNeg) then xgo (pc + 1) ls st S (xup V a (nI j).toNatClampNeg (vp_nar .boolean (nI b))) else none) else none) = _; rw [if_pos rfl, if_pos ⟨hk, xn_in h hn⟩, xn_cl (by omega), xn_nb b hb]; rfl)
theorem xi_cast {a j b : Nat} (hd : decode m.2.1 pc = .ok (.castore, 1)) (hk : xkd S a = 8) (h : j < xln S a) (hn : xln S a < 2147483648) (hb : b < 65536) : xX E m pc ls (.int (nI b) :: .int (nI j) :: .ref a :: st) S V Q ↔ xX E m (pc + 1) ls st S (xup V a j (nI b)) Q :=
  xi hd (by show (if (1 : Nat) = 1 then (if xkd S a = 8 ∧ ¬ (nI j < 0 ∨ xln S a ≤ (nI j).toNatClampNeg) then xgo (pc + 1) ls st S (xup V a (nI j).toNatClampNeg (vp_nar .char (nI b))) else none) else none) = _; rw [if_pos rfl, if_pos ⟨hk, xn_in h hn⟩, xn_cl (by omega), show vp_nar .char (nI b) = nI b by unfold vp_nar; rw [(pk_charN hb).1]]; rfl)
theorem xi_aast {a j v : Nat} (hd : decode m.2.1 pc = .ok (.aastore, 1)) (hk : (xkd S a = 10 ∧ xkd S v = 1) ∨ (xkd S a = 11 ∧ xkd S v = 3)) (h : j < xln S a) (hn : xln S a < 2147483648) : xX E m pc ls (.ref v :: .int (nI j) :: .ref a :: st) S V Q ↔ xX E m (pc + 1) ls st (xsetr S a j (some v)) V Q :=
  xi hd (by show (if (1 : Nat) = 1 then (if ((xkd S a = 10 ∧ xkd S v = 1) ∨ (xkd S a = 11 ∧ xkd S v = 3)) ∧ ¬ (nI j < 0 ∨ xln S a ≤ (nI j).toNatClampNeg) then xgo (pc + 1) ls st (xsetr S a (nI j).toNatClampNeg (some v)) V else none) else none) = _; rw [if_pos rfl, if_pos ⟨hk, xn_in h hn⟩, xn_cl (by omega)]; rfl)
theorem xi_alen {a : Nat} (hd : decode m.2.1 pc = .ok (.arraylength, 1)) (hk : (7 ≤ xkd S a ∧ xkd S a ≤ 12) ∨ xkd S a = 14) : xX E m pc ls (.ref a :: st) S V Q ↔ xX E m (pc + 1) ls (.int (nI (xln S a)) :: st) S V Q :=
  xi hd (by show (if (1 : Nat) = 1 then (if (7 ≤ xkd S a ∧ xkd S a ≤ 12) ∨ xkd S a = 14 then xgo (pc + 1) ls (.int (Int32.ofNat (xln S a)) :: st) S V else none) else none) = _; rw [if_pos rfl, if_pos hk]; rfl)
theorem xi_getI {x kd j a : Nat} (hd : decode m.2.1 pc = .ok (.getfield x, 3)) (hf : xassoc xFt (xkey m x) = some (kd, j)) (hR : xisR kd j = false) (hk : xkd S a = kd) : xX E m pc ls (.ref a :: st) S V Q ↔ xX E m (pc + 3) ls (.int (V a j) :: st) S V Q :=
  xi hd (by show (if (3 : Nat) = 3 then (match xassoc xFt (xkey m x) with | some (kd, j) => if xkd S a = kd then xgo (pc + 3) ls ((if xisR kd j = true then va_rf (xrf S a j) else .int (V a j)) :: st) S V else none | none => none) else none) = _; rw [if_pos rfl, hf]; dsimp only; rw [if_pos hk, hR]; rfl)
theorem xi_getR {x kd j a : Nat} (hd : decode m.2.1 pc = .ok (.getfield x, 3)) (hf : xassoc xFt (xkey m x) = some (kd, j)) (hR : xisR kd j = true) (hk : xkd S a = kd) : xX E m pc ls (.ref a :: st) S V Q ↔ xX E m (pc + 3) ls (va_rf (xrf S a j) :: st) S V Q :=
  xi hd (by show (if (3 : Nat) = 3 then (match xassoc xFt (xkey m x) with | some (kd, j) => if xkd S a = kd then xgo (pc + 3) ls ((if xisR kd j = true then va_rf (xrf S a j) else .int (V a j)) :: st) S V else none | none => none) else none) = _; rw [if_pos rfl, hf]; dsimp only; rw [if_pos hk, hR]; rfl)
theorem xi_putI {x kd j a : Nat} {v : Int32} (hd : decode m.2.1 pc = .ok (.putfield x, 3)) (hf : xassoc xFt (xkey m x) = some (kd, j)) (h6 : kd ≤ 6) (hR : xisR kd j = false) (hZ : xisZ kd j = false) (hk : xkd S a = kd) : xX E m pc ls (.int v :: .ref a :: st) S V Q ↔ xX E m (pc + 3) ls st S (xup V a j v) Q :=
  xi hd (by show (if (3 : Nat) = 3 then (match xassoc xFt (xkey m x) with | some (kd, j) => (if xkd S a = kd ∧ kd ≤ 6 ∧ xisR kd j = false ∧ (xisZ kd j = true → v = 0 ∨ v = 1) then xgo (pc + 3) ls st S (xup V a j v) else none) | none => none) else none) = _; rw [if_pos rfl, hf]; dsimp only; rw [if_pos ⟨hk, h6, hR, fun h => by rw [hZ] at h; cases h⟩]; rfl)
theorem xn_01 : ∀ b : Nat, b < 2 → nI b = 0 ∨ nI b = 1 := by decide +kernel
theorem xi_putZ {x kd j a b : Nat} (hd : decode m.2.1 pc = .ok (.putfield x, 3)) (hf : xassoc xFt (xkey m x) = some (kd, j)) (h6 : kd ≤ 6) (hR : xisR kd j = false) (hk : xkd S a = kd) (hb : b < 2) : xX E m pc ls (.int (nI b) :: .ref a :: st) S V Q ↔ xX E m (pc + 3) ls st S (xup V a j (nI b)) Q :=
  xi hd (by show (if (3 : Nat) = 3 then (match xassoc xFt (xkey m x) with | some (kd, j) => (if xkd S a = kd ∧ kd ≤ 6 ∧ xisR kd j = false ∧ (xisZ kd j = true → nI b = 0 ∨ nI b = 1) then xgo (pc + 3) ls st S (xup V a j (nI b)) else none) | none => none) else none) = _; rw [if_pos rfl, hf]; dsimp only; rw [if_pos ⟨hk, h6, hR, fun _ => xn_01 b hb⟩]; rfl)
theorem xi_putR {x kd j a v : Nat} (hd : decode m.2.1 pc = .ok (.putfield x, 3)) (hf : xassoc xFt (xkey m x) = some (kd, j)) (h6 : kd ≤ 6) (hR : xisR kd j = true) (hn : m.1.name = "<init>") (ho : xown m + 1 = kd) (hk : xkd S a = kd) : xX E m pc ls (.ref v :: .ref a :: st) S V Q ↔ xX E m (pc + 3) ls st (xsetr S a j (some v)) V Q :=
  xi hd (by show (if (3 : Nat) = 3 then (match xassoc xFt (xkey m x) with | some (kd, j) => (if xkd S a = kd ∧ kd ≤ 6 ∧ xisR kd j = true ∧ m.1.name = "<init>" ∧ xown m + 1 = kd then xgo (pc + 3) ls st (xsetr S a j (some v)) V else none) | none => none) else none) = _; rw [if_pos rfl, hf]; dsimp only; rw [if_pos ⟨hk, h6, hR, hn, ho⟩]; rfl)
theorem xi_rem {a b : Nat} (hd : decode m.2.1 pc = .ok (.irem, 1)) (h0 : 0 < b) (ha : a < 2147483648) (hb : b < 2147483648) : xX E m pc ls (.int (nI b) :: .int (nI a) :: st) S V Q ↔ xX E m (pc + 1) ls (.int (nI (a % b)) :: st) S V Q :=
  xi hd (by show (if (1 : Nat) = 1 then (if nI b = 0 then none else xgo (pc + 1) ls (.int (nI a - nI a / nI b * nI b) :: st) S V) else none) = _; rw [if_pos rfl, if_neg (nI_ne0 h0 hb), xn_rem ha h0 hb]; rfl)
theorem xi_remG {x y : Int32} (hd : decode m.2.1 pc = .ok (.irem, 1)) (h : ¬ y = 0) : xX E m pc ls (.int y :: .int x :: st) S V Q ↔ xX E m (pc + 1) ls (.int (x - x / y * y) :: st) S V Q :=
  xi hd (by show (if (1 : Nat) = 1 then (if y = 0 then none else xgo (pc + 1) ls (.int (x - x / y * y) :: st) S V) else none) = _; rw [if_pos rfl, if_neg h]; rfl)
theorem xn_div {a b : Nat} (ha : a < 2147483648) (h0 : 0 < b) (hb : b < 2147483648) : nI a / nI b = nI (a / b) := pk_div ha h0 hb
theorem xi_div {a b : Nat} (hd : decode m.2.1 pc = .ok (.idiv, 1)) (h0 : 0 < b) (ha : a < 2147483648) (hb : b < 2147483648) : xX E m pc ls (.int (nI b) :: .int (nI a) :: st) S V Q ↔ xX E m (pc + 1) ls (.int (nI (a / b)) :: st) S V Q :=
  xi hd (by show (if (1 : Nat) = 1 then (if nI b = 0 then none else xgo (pc + 1) ls (.int (nI a / nI b) :: st) S V) else none) = _; rw [if_pos rfl, if_neg (nI_ne0 h0 hb), xn_div ha h0 hb]; rfl)
theorem xi_retL {v : Int64} (hd : decode m.2.1 pc = .ok (.lreturn, 1)) (hr : m.2.2.2.1 = some .long) : xX E m pc ls [.long v] S V Q ↔ Q (some (.long v)) S V := xi_r hd (by simp only [xdo, if_true]; rw [hr])
theorem xi_tab {dd lo hi : Int} {offs : Array Int} {k : Nat} {x : Int32} {tgt : Nat} {off : Int} (hd : decode m.2.1 pc = .ok (.tableswitch dd lo hi offs, k)) (ho : (if x.toInt < lo ∨ hi < x.toInt then dd else offs.getD (x.toInt - lo).toNat 0) = off) (hs : (hi - lo).toNat < offs.size) (ht : (pc : Int) + off = (tgt : Int)) : xX E m pc ls (.int x :: st) S V Q ↔ xX E m tgt ls st S V Q :=
  xi hd (by
    show (if x.toInt < lo ∨ hi < x.toInt then xoff pc dd ls st S V else (match offs[(x.toInt - lo).toNat]? with | some off => xoff pc off ls st S V | none => none)) = _
    by_cases h : x.toInt < lo ∨ hi < x.toInt
    · rw [if_pos h] at ho ⊢; rw [ho]; exact xi_off ht
    · rw [if_neg h] at ho ⊢
      have hlt : (x.toInt - lo).toNat < offs.size := by omega
      rw [Array.getElem?_eq_getElem hlt]
      dsimp only
      have : offs.getD (x.toInt - lo).toNat 0 = offs[(x.toInt - lo).toNat] := by simp [Array.getD, hlt]
      rw [← this, ho]; exact xi_off ht)
theorem xcall_yes {y : xM} {n : Nat} {as rest : List Value} (h1 : n ≤ st.length) (h2 : xcat rest ≤ 8) (h3 : xht y < xht m) (h4 : (xargs as).length ≤ y.2.2.1) : xcall m y n as rest st = some (.inr (.inr (y, as, rest))) := if_pos ⟨h1, h2, h3, h4⟩
theorem xi_callV {x n b kd : Nat} {y : xM} {as rest : List Value} (hd : decode m.2.1 pc = .ok (.invokevirtual x, 3)) (hf : xassoc xCt (xkey m x) = some (y, n, 0)) (hst : st = as.reverse ++ .ref b :: rest) (hn : as.length = n) (hht : xht y < xht m) (hln : (xargs (.ref b :: as)).length ≤ y.2.2.1) (hkd : xkdo (xown y) = kd) (hk : xkd S b = kd) (hc : xcat rest ≤ 8) :
    xX E m pc ls st S V Q ↔ xC E y (.ref b :: as) S V (fun v S' V' => xX E m (pc + 3) ls (v.toList ++ rest) S' V' Q) := by
  subst hst hn
  refine xX_call (by
    rw [xstep, hd]
    dsimp only
    simp only [xdo, if_true]
    have e1 : (as.reverse ++ Value.ref b :: rest).drop as.length = .ref b :: rest := by simp
    have e2 : ((as.reverse ++ Value.ref b :: rest).take as.length).reverse = as := by simp
    rw [hf]
    simp only [e1]
    rw [if_pos (hk.trans hkd.symm), e2]
    exact xcall_yes (by simp) hc hht hln)
theorem xi_callS {x n mode : Nat} {y : xM} {as rest : List Value} (hd : decode m.2.1 pc = .ok (.invokestatic x, 3)) (hf : xassoc xCt (xkey m x) = some (y, n, mode)) (hm : mode = 1 ∨ mode = 3) (hst : st = as.reverse ++ rest) (hn : as.length = n) (hht : xht y < xht m) (hln : (xargs as).length ≤ y.2.2.1) (hc : xcat rest ≤ 8) :
    xX E m pc ls st S V Q ↔ xC E y as S V (fun v S' V' => xX E m (pc + 3) ls (v.toList ++ rest) S' V' Q) := by
  subst hst hn
  refine xX_call (by
    rw [xstep, hd]
    have e1 : (as.reverse ++ rest).drop as.length = rest := by simp
    have e2 : ((as.reverse ++ rest).take as.length).reverse = as := by simp
    dsimp only
    simp only [xdo, if_true]
    rcases hm with rfl | rfl
    · rw [hf]
      simp only [e1, e2]
      exact xcall_yes (by simp) hc hht hln
    · rw [hf]
      simp only [e1, e2]
      exact xcall_yes (by simp) hc hht hln)
theorem xi_callI {x n b mode : Nat} {y : xM} {as rest : List Value} (hd : decode m.2.1 pc = .ok (.invokespecial x, 3)) (hf : xassoc xCt (xkey m x) = some (y, n, mode)) (hm : mode = 2 ∨ mode = 4) (hst : st = as.reverse ++ .ref b :: rest) (hn : as.length = n) (hht : xht y < xht m) (hln : (xargs (.ref b :: as)).length ≤ y.2.2.1) (hc : xcat rest ≤ 8) :
    xX E m pc ls st S V Q ↔ xC E y (.ref b :: as) S V (fun v S' V' => xX E m (pc + 3) ls (v.toList ++ rest) S' V' Q) := by
  subst hst hn
  refine xX_call (by
    rw [xstep, hd]
    have e1 : (as.reverse ++ Value.ref b :: rest).drop as.length = .ref b :: rest := by simp
    have e2 : ((as.reverse ++ Value.ref b :: rest).take as.length).reverse = as := by simp
    dsimp only
    simp only [xdo, if_true]
    rcases hm with rfl | rfl
    · rw [hf]
      simp only [e1, e2]
      exact xcall_yes (by simp) hc hht hln
    · rw [hf]
      simp only [e1, e2]
      exact xcall_yes (by simp) hc hht hln)
theorem xi_objI {x b : Nat} (hd : decode m.2.1 pc = .ok (.invokespecial x, 3)) (hf : xassoc xCt (xkey m x) = none) (ho : xkey m x ∈ xOt) (hh : 0 < xht m) (hc : xcat st ≤ 8) : xX E m pc ls (.ref b :: st) S V Q ↔ xX E m (pc + 3) ls st S V Q :=
  xi hd (by simp only [xdo, if_true]; rw [hf]; dsimp only; rw [if_pos ho, if_pos ⟨hc, hh⟩]; rfl)
theorem xi_max {x : Nat} {a b : Int32} (hd : decode m.2.1 pc = .ok (.invokestatic x, 3)) (hf : xassoc xCt (xkey m x) = none) (ho : xassoc xMt (xkey m x) = some 0) (hh : 0 < xht m) (hc : xcat st ≤ 8) : xX E m pc ls (.int b :: .int a :: st) S V Q ↔ xX E m (pc + 3) ls (.int (if a < b then b else a) :: st) S V Q :=
  xi hd (by simp only [xdo, if_true]; rw [hf]; dsimp only; rw [ho]; exact if_pos ⟨hc, hh⟩)
theorem xi_copy {x a a0 sp dp n : Nat} (hd : decode m.2.1 pc = .ok (.invokestatic x, 3)) (hf : xassoc xCt (xkey m x) = none) (hg : xassoc xMt (xkey m x) = none) (ho : xkey m x ∈ xAt) (hh : 0 < xht m) (k0 : xkd S a0 = 7) (k1 : xkd S a = 7) (h4 : sp + n ≤ xln S a0) (h5 : dp + n ≤ xln S a) (b0 : xln S a0 < 2147483648) (b1 : xln S a < 2147483648) (hc : xcat st ≤ 8) :
    xX E m pc ls (.int (nI n) :: .int (nI dp) :: .ref a :: .int (nI sp) :: .ref a0 :: st) S V Q ↔ xX E m (pc + 3) ls st S (xrow V a (va_cpy (V a0) (V a) sp dp n)) Q :=
  xi hd (by
    simp only [xdo, if_true]
    rw [hf]
    dsimp only
    rw [hg]
    dsimp only
    rw [if_pos ho, xn_cl (j := sp) (by omega), xn_cl (j := dp) (by omega), xn_cl (j := n) (by omega), if_pos ⟨k0, k1, ⟨nI_pos (by omega), nI_pos (by omega), nI_pos (by omega)⟩, h4, h5, hc, hh⟩]
    rfl)
theorem xi_newarr {t : ArrayType} {n kd : Nat} (hd : decode m.2.1 pc = .ok (.newarray t, 2)) (hk : (kd = 7 ∧ t = .int) ∨ (kd = 8 ∧ t = .char) ∨ (kd = 9 ∧ t = .boolean)) (hn : n ≤ 10000) : xX E m pc ls (.int (nI n) :: st) S V Q ↔ xX E m (pc + 2) ls (.ref S.2.1 :: st) (xnew S kd n n) (xrow V S.2.1 (fun _ => 0)) Q :=
  xi hd (by
    simp only [xdo, if_true]
    rw [if_neg (nI_pos (by omega)), xn_cl (by omega), if_pos hn]
    rcases hk with ⟨rfl, rfl⟩ | ⟨rfl, rfl⟩ | ⟨rfl, rfl⟩ <;> rfl)
theorem xi_anewarr {x n ci kd : Nat} (hd : decode m.2.1 pc = .ok (.anewarray x, 3)) (hf : xassoc xKt (xkey m x) = some ci) (hk : (kd = 10 ∧ ci = 0) ∨ (kd = 11 ∧ ci = 2)) (hn : n ≤ 10000) : xX E m pc ls (.int (nI n) :: st) S V Q ↔ xX E m (pc + 3) ls (.ref S.2.1 :: st) (xnew S kd n n) (xrow V S.2.1 (fun _ => 0)) Q :=
  xi hd (by
    simp only [xdo, if_true]
    rw [if_neg (nI_pos (by omega)), xn_cl (by omega), if_pos hn, hf]
    rcases hk with ⟨rfl, rfl⟩ | ⟨rfl, rfl⟩ <;> rfl)
theorem xi_new {x ci : Nat} (hd : decode m.2.1 pc = .ok (.new x, 3)) (hf : xassoc xKt (xkey m x) = some ci) : xX E m pc ls st S V Q ↔ xX E m (pc + 3) ls (.ref S.2.1 :: st) (xnew S (ci + 1) 0 (xN (ci + 1))) (xrow V S.2.1 (fun _ => 0)) Q :=
  xi hd (by simp only [xdo, if_true]; rw [hf]; rfl)
theorem xi_stat {x w : Nat} {v : Value} (hd : decode m.2.1 pc = .ok (.getstatic x, 3)) (hf : xassoc xSt (xkey m x) = some w) (hv : (w = 0 ∧ v = .ref E.1) ∨ (w = 1 ∧ v = .ref E.2.1)) : xX E m pc ls st S V Q ↔ xX E m (pc + 3) ls (v :: st) S V Q :=
  xi hd (by
    simp only [xdo, if_true]
    rw [hf]
    rcases hv with ⟨rfl, rfl⟩ | ⟨rfl, rfl⟩ <;> rfl)
theorem xi_ldc {x : Nat} {v : Int32} (hd : decode m.2.1 pc = .ok (.ldc x, 2)) (hf : xassoc xIt (xkey m x) = some v) : xX E m pc ls st S V Q ↔ xX E m (pc + 2) ls (.int v :: st) S V Q := xi hd (by simp only [xdo, if_true]; rw [hf]; rfl)
theorem xi_ldcw {x : Nat} {v : Int32} (hd : decode m.2.1 pc = .ok (.ldc_w x, 3)) (hf : xassoc xIt (xkey m x) = some v) : xX E m pc ls st S V Q ↔ xX E m (pc + 3) ls (.int v :: st) S V Q := xi hd (by simp only [xdo, if_true]; rw [hf]; rfl)
theorem xi_ldc2 {x : Nat} {v : Int64} (hd : decode m.2.1 pc = .ok (.ldc2_w x, 3)) (hf : xassoc xJt (xkey m x) = some v) : xX E m pc ls st S V Q ↔ xX E m (pc + 3) ls (.long v :: st) S V Q := xi hd (by simp only [xdo, if_true]; rw [hf]; rfl)
theorem xi_retI {v : Int32} (hd : decode m.2.1 pc = .ok (.ireturn, 1)) (hr : m.2.2.2.1 = some .int) : xX E m pc ls [.int v] S V Q ↔ Q (some (.int v)) S V := xi_r hd (by simp only [xdo, if_true]; rw [hr]; exact if_pos rfl)
theorem xi_retZ {b : Nat} (hd : decode m.2.1 pc = .ok (.ireturn, 1)) (hr : m.2.2.2.1 = some .boolean) (hb : b < 2) : xX E m pc ls [.int (nI b)] S V Q ↔ Q (some (.int (nI b))) S V := xi_r hd (by simp only [xdo, if_true]; rw [hr]; dsimp only; rw [if_pos (xn_nb2 b hb)])
theorem xi_retC {b : Nat} (hd : decode m.2.1 pc = .ok (.ireturn, 1)) (hr : m.2.2.2.1 = some .char) (hb : b < 65536) : xX E m pc ls [.int (nI b)] S V Q ↔ Q (some (.int (nI b))) S V := xi_r hd (by simp only [xdo, if_true]; rw [hr]; dsimp only; rw [if_pos (pk_charN hb).1])
theorem xi_retB {b : Nat} (hd : decode m.2.1 pc = .ok (.ireturn, 1)) (hr : m.2.2.2.1 = some .byte) (hb : narrow .byte (.int (nI b)) = .int (nI b)) : xX E m pc ls [.int (nI b)] S V Q ↔ Q (some (.int (nI b))) S V := xi_r hd (by simp only [xdo, if_true]; rw [hr]; dsimp only; rw [if_pos hb])
theorem xi_retV (hd : decode m.2.1 pc = .ok (.return_, 1)) (hr : m.2.2.2.1 = none) : xX E m pc ls [] S V Q ↔ Q none S V := xi_r hd (by simp only [xdo, if_true]; rw [hr])
theorem xi_retA {a : Nat} (hd : decode m.2.1 pc = .ok (.areturn, 1)) (hr : (∃ o, m.2.2.2.1 = some (.object o)) ∨ (∃ o, m.2.2.2.1 = some (.array o))) : xX E m pc ls [.ref a] S V Q ↔ Q (some (.ref a)) S V := xi_r hd (by
  simp only [xdo, if_true]
  rcases hr with ⟨o, hr⟩ | ⟨o, hr⟩ <;> rw [hr])
end XI
theorem xrf_some (a : Nat) : va_rf (some a) = .ref a := rfl
theorem xup_eq {V : xV} {a j : Nat} {v : Int32} : xup V a j v a j = v := if_pos ⟨rfl, rfl⟩
theorem xup_ne {V : xV} {a j b i : Nat} {v : Int32} (h : ¬ (b = a ∧ i = j)) : xup V a j v b i = V b i := if_neg h
theorem xrow_eq {V : xV} {a : Nat} {f : Nat → Int32} : xrow V a f a = f := if_pos rfl
theorem xrow_ne {V : xV} {a b : Nat} {f : Nat → Int32} (h : ¬ b = a) : xrow V a f b = V b := if_neg h
section XI2
variable {E : Nat × Nat × Nat} {m : xM} {pc : Nat} {ls : List (Option Value)} {st : List Value} {S : xSh} {V : xV} {Q : Option Value → xSh → xV → Prop}
theorem xi_iinc {j : Nat} {n : Int} {o : Option Value} {x v : Int32} {ls' : List (Option Value)} (hd : decode m.2.1 pc = .ok (.iinc (j + 1) n, 3)) (hj : ls[j]? = some o) (ho : xnl o = true) (hx : ls[j + 1]? = some (some (.int x))) (hv : x + Int32.ofInt n = v) (hlt : j + 1 < ls.length) (hl : ls.set (j + 1) (some (.int v)) = ls') : xX E m pc ls st S V Q ↔ xX E m (pc + 3) ls' st S V Q := by
  rw [← hl, ← xst1_s hj ho (.int v), ← hv]
  refine xi hd ?_
  simp only [xdo, if_true]
  rw [xlocAt_iff.mpr hx]
  dsimp only
  rw [if_pos hlt]
  rfl
theorem xiinc_m1 (a : Nat) : nI a + nI 1 + Int32.ofInt (-1) = nI a := by
  rw [Int32.add_assoc, show nI 1 + Int32.ofInt (-1) = 0 by decide +kernel, Int32.add_zero]
theorem xi_look {dd : Int} {ps : Array (Int × Int)} {k : Nat} {x : Int32} {tgt : Nat} {off : Int} (hd : decode m.2.1 pc = .ok (.lookupswitch dd ps, k)) (hs : (ps.toList.zip (ps.toList.drop 1)).all (fun (a, next) => a.1 < next.1) = true) (ho : Op.lookupswitch.offset ps.toList dd x.toInt = off) (ht : (pc : Int) + off = (tgt : Int)) : xX E m pc ls (.int x :: st) S V Q ↔ xX E m tgt ls st S V Q :=
  xi hd (by
    simp only [xdo]
    rw [if_pos hs, ho]
    exact xi_off ht)
end XI2
end
section
/-! ===== the keys of the tables ===== -/
theorem xft_0_9 : xassoc xFt (0, 9) = some (1, 0) := by decide +kernel
theorem xft_0_15 : xassoc xFt (0, 15) = some (1, 1) := by decide +kernel
theorem xft_0_18 : xassoc xFt (0, 18) = some (1, 2) := by decide +kernel
theorem xft_0_21 : xassoc xFt (0, 21) = some (1, 3) := by decide +kernel
theorem xft_0_30 : xassoc xFt (0, 30) = some (1, 4) := by decide +kernel
theorem xft_0_34 : xassoc xFt (0, 34) = some (1, 5) := by decide +kernel
theorem xft_0_37 : xassoc xFt (0, 37) = some (1, 6) := by decide +kernel
theorem xft_0_40 : xassoc xFt (0, 40) = some (1, 7) := by decide +kernel
theorem xft_0_43 : xassoc xFt (0, 43) = some (1, 8) := by decide +kernel
theorem xft_0_46 : xassoc xFt (0, 46) = some (1, 9) := by decide +kernel
theorem xft_0_49 : xassoc xFt (0, 49) = some (1, 10) := by decide +kernel
theorem xft_1_11 : xassoc xFt (1, 11) = some (2, 0) := by decide +kernel
theorem xft_1_18 : xassoc xFt (1, 18) = some (2, 1) := by decide +kernel
theorem xft_1_22 : xassoc xFt (1, 22) = some (2, 2) := by decide +kernel
theorem xft_2_11 : xassoc xFt (2, 11) = some (3, 0) := by decide +kernel
theorem xft_2_17 : xassoc xFt (2, 17) = some (3, 1) := by decide +kernel
theorem xft_2_21 : xassoc xFt (2, 21) = some (3, 2) := by decide +kernel
theorem xft_2_35 : xassoc xFt (2, 35) = some (3, 3) := by decide +kernel
theorem xft_2_39 : xassoc xFt (2, 39) = some (3, 4) := by decide +kernel
theorem xft_2_42 : xassoc xFt (2, 42) = some (3, 5) := by decide +kernel
theorem xft_2_45 : xassoc xFt (2, 45) = some (1, 6) := by decide +kernel
theorem xft_2_48 : xassoc xFt (2, 48) = some (1, 4) := by decide +kernel
theorem xft_2_51 : xassoc xFt (2, 51) = some (1, 10) := by decide +kernel
theorem xft_2_54 : xassoc xFt (2, 54) = some (1, 1) := by decide +kernel
theorem xft_2_57 : xassoc xFt (2, 57) = some (1, 0) := by decide +kernel
theorem xft_2_60 : xassoc xFt (2, 60) = some (1, 9) := by decide +kernel
theorem xft_2_77 : xassoc xFt (2, 77) = some (1, 8) := by decide +kernel
theorem xft_2_120 : xassoc xFt (2, 120) = some (1, 3) := by decide +kernel
theorem xft_2_129 : xassoc xFt (2, 129) = some (1, 7) := by decide +kernel
theorem xft_3_9 : xassoc xFt (3, 9) = some (4, 0) := by decide +kernel
theorem xft_3_15 : xassoc xFt (3, 15) = some (4, 2) := by decide +kernel
theorem xft_3_19 : xassoc xFt (3, 19) = some (4, 3) := by decide +kernel
theorem xft_4_10 : xassoc xFt (4, 10) = some (5, 0) := by decide +kernel
theorem xft_4_16 : xassoc xFt (4, 16) = some (5, 1) := by decide +kernel
theorem xft_4_22 : xassoc xFt (4, 22) = some (5, 2) := by decide +kernel
theorem xft_4_26 : xassoc xFt (4, 26) = some (5, 3) := by decide +kernel
theorem xft_4_30 : xassoc xFt (4, 30) = some (5, 4) := by decide +kernel
theorem xft_4_37 : xassoc xFt (4, 37) = some (5, 5) := by decide +kernel
theorem xft_4_49 : xassoc xFt (4, 49) = some (3, 0) := by decide +kernel
theorem xft_4_53 : xassoc xFt (4, 53) = some (1, 4) := by decide +kernel
theorem xft_4_78 : xassoc xFt (4, 78) = some (4, 1) := by decide +kernel
theorem xft_4_84 : xassoc xFt (4, 84) = some (1, 8) := by decide +kernel
theorem xft_4_87 : xassoc xFt (4, 87) = some (1, 9) := by decide +kernel
theorem xft_4_97 : xassoc xFt (4, 97) = some (3, 1) := by decide +kernel
theorem xft_4_104 : xassoc xFt (4, 104) = some (3, 3) := by decide +kernel
theorem xft_4_116 : xassoc xFt (4, 116) = some (1, 6) := by decide +kernel
theorem xft_4_119 : xassoc xFt (4, 119) = some (1, 7) := by decide +kernel
theorem xft_4_130 : xassoc xFt (4, 130) = some (1, 10) := by decide +kernel
theorem xft_4_145 : xassoc xFt (4, 145) = some (1, 3) := by decide +kernel
theorem xft_4_148 : xassoc xFt (4, 148) = some (1, 0) := by decide +kernel
theorem xft_4_151 : xassoc xFt (4, 151) = some (1, 1) := by decide +kernel
theorem xft_4_154 : xassoc xFt (4, 154) = some (1, 5) := by decide +kernel
theorem xft_4_157 : xassoc xFt (4, 157) = some (1, 2) := by decide +kernel
theorem xft_4_172 : xassoc xFt (4, 172) = some (3, 4) := by decide +kernel
theorem xft_4_175 : xassoc xFt (4, 175) = some (3, 5) := by decide +kernel
theorem xft_4_185 : xassoc xFt (4, 185) = some (2, 2) := by decide +kernel
theorem xst_4_207 : xassoc xSt (4, 207) = some 0 := by decide +kernel
theorem xst_4_210 : xassoc xSt (4, 210) = some 1 := by decide +kernel
theorem xit_4_107 : xassoc xIt (4, 107) = some (nI 100000) := by decide +kernel
theorem xit_4_112 : xassoc xIt (4, 112) = some (nI 99000) := by decide +kernel
theorem xit_6_7 : xassoc xIt (6, 7) = some (nI 2147483647) := by decide +kernel
theorem xit_10_265 : xassoc xIt (10, 265) = some (nI 1431655765) := by decide +kernel
theorem xit_10_266 : xassoc xIt (10, 266) = some (nI 858993459) := by decide +kernel
theorem xit_10_267 : xassoc xIt (10, 267) = some (nI 252645135) := by decide +kernel
theorem xjt_6_8 : xassoc xJt (6, 8) = some (lN 3) := by decide +kernel
theorem xjt_6_10 : xassoc xJt (6, 10) = some (lN 31) := by decide +kernel
theorem xkt_1_9 : xassoc xKt (1, 9) = some 2 := by decide +kernel
theorem xkt_2_9 : xassoc xKt (2, 9) = some 0 := by decide +kernel
theorem xkt_4_7 : xassoc xKt (4, 7) = some 2 := by decide +kernel
theorem xkt_4_19 : xassoc xKt (4, 19) = some 1 := by decide +kernel
theorem xkt_4_34 : xassoc xKt (4, 34) = some 3 := by decide +kernel
theorem xkt_6_13 : xassoc xKt (6, 13) = some 4 := by decide +kernel
set_option maxRecDepth 20000 in
theorem xct_0_61 : xassoc xCt (0, 61) = some (mX0_addToSum, 1, 0) := rfl
set_option maxRecDepth 20000 in
theorem xct_0_65 : xassoc xCt (0, 65) = some (mX4_has, 2, 3) := rfl
set_option maxRecDepth 20000 in
theorem xct_1_17 : xassoc xCt (1, 17) = some (mX2_init, 0, 2) := rfl
set_option maxRecDepth 20000 in
theorem xct_1_25 : xassoc xCt (1, 25) = some (mX2_copyFrom, 1, 0) := rfl
set_option maxRecDepth 20000 in
theorem xct_2_24 : xassoc xCt (2, 24) = some (mX0_init, 0, 4) := rfl
set_option maxRecDepth 20000 in
theorem xct_2_25 : xassoc xCt (2, 25) = some (mX0_copyFrom, 1, 0) := rfl
set_option maxRecDepth 20000 in
theorem xct_2_63 : xassoc xCt (2, 63) = some (mX2_stateOf, 1, 0) := rfl
set_option maxRecDepth 20000 in
theorem xct_2_67 : xassoc xCt (2, 67) = some (mX4_has, 2, 3) := rfl
set_option maxRecDepth 20000 in
theorem xct_2_71 : xassoc xCt (2, 71) = some (mX2_sendersTo, 1, 0) := rfl
set_option maxRecDepth 20000 in
theorem xct_2_74 : xassoc xCt (2, 74) = some (mX2_waitsOf, 1, 0) := rfl
set_option maxRecDepth 20000 in
theorem xct_2_86 : xassoc xCt (2, 86) = some (mX2_findAllWaits, 0, 0) := rfl
set_option maxRecDepth 20000 in
theorem xct_2_90 : xassoc xCt (2, 90) = some (mX2_passSlot, 0, 0) := rfl
set_option maxRecDepth 20000 in
theorem xct_2_94 : xassoc xCt (2, 94) = some (mX2_areDone, 1, 0) := rfl
set_option maxRecDepth 20000 in
theorem xct_2_98 : xassoc xCt (2, 98) = some (mX2_isStuck, 0, 0) := rfl
set_option maxRecDepth 20000 in
theorem xct_2_102 : xassoc xCt (2, 102) = some (mX2_runnerInSlotOf, 1, 0) := rfl
set_option maxRecDepth 20000 in
theorem xct_2_105 : xassoc xCt (2, 105) = some (mX2_account, 2, 0) := rfl
set_option maxRecDepth 20000 in
theorem xct_2_109 : xassoc xCt (2, 109) = some (mX2_runNextOf, 1, 0) := rfl
set_option maxRecDepth 20000 in
theorem xct_2_113 : xassoc xCt (2, 113) = some (mX2_setIn, 1, 0) := rfl
set_option maxRecDepth 20000 in
theorem xct_2_116 : xassoc xCt (2, 116) = some (mX2_lentPriority, 2, 0) := rfl
set_option maxRecDepth 20000 in
theorem xct_2_123 : xassoc xCt (2, 123) = some (mX0_goBack, 1, 0) := rfl
set_option maxRecDepth 20000 in
theorem xct_2_126 : xassoc xCt (2, 126) = some (mX0_addToSum, 1, 0) := rfl
set_option maxRecDepth 20000 in
theorem xct_2_132 : xassoc xCt (2, 132) = some (mX0_receive, 1, 0) := rfl
set_option maxRecDepth 20000 in
theorem xct_2_135 : xassoc xCt (2, 135) = some (mX0_takeMessage, 0, 0) := rfl
set_option maxRecDepth 20000 in
theorem xct_2_138 : xassoc xCt (2, 138) = some (mX2_freeIfHeldBy, 2, 0) := rfl
set_option maxRecDepth 20000 in
theorem xct_4_9 : xassoc xCt (4, 9) = some (mX2_init, 0, 2) := rfl
set_option maxRecDepth 20000 in
theorem xct_4_21 : xassoc xCt (4, 21) = some (mX1_init, 0, 2) := rfl
set_option maxRecDepth 20000 in
theorem xct_4_36 : xassoc xCt (4, 36) = some (mX3_init, 0, 4) := rfl
set_option maxRecDepth 20000 in
theorem xct_4_41 : xassoc xCt (4, 41) = some (mX4_isContext, 1, 1) := rfl
set_option maxRecDepth 20000 in
theorem xct_4_45 : xassoc xCt (4, 45) = some (mX4_isCommand, 2, 1) := rfl
set_option maxRecDepth 20000 in
theorem xct_4_59 : xassoc xCt (4, 59) = some (mX1_record, 1, 0) := rfl
set_option maxRecDepth 20000 in
theorem xct_4_63 : xassoc xCt (4, 63) = some (mX0_append, 2, 0) := rfl
set_option maxRecDepth 20000 in
theorem xct_4_81 : xassoc xCt (4, 81) = some (mX4_isPriority, 1, 1) := rfl
set_option maxRecDepth 20000 in
theorem xct_4_90 : xassoc xCt (4, 90) = some (mX0_receive, 1, 0) := rfl
set_option maxRecDepth 20000 in
theorem xct_4_94 : xassoc xCt (4, 94) = some (mX4_isLock, 1, 1) := rfl
set_option maxRecDepth 20000 in
theorem xct_4_101 : xassoc xCt (4, 101) = some (mX4_isStep, 1, 1) := rfl
set_option maxRecDepth 20000 in
theorem xct_4_108 : xassoc xCt (4, 108) = some (mX2_passSlots, 1, 0) := rfl
set_option maxRecDepth 20000 in
theorem xct_4_113 : xassoc xCt (4, 113) = some (mX2_passUntilDone, 1, 0) := rfl
set_option maxRecDepth 20000 in
theorem xct_4_122 : xassoc xCt (4, 122) = some (mX2_findAllWaits, 0, 0) := rfl
set_option maxRecDepth 20000 in
theorem xct_4_126 : xassoc xCt (4, 126) = some (mX2_lentPriority, 2, 0) := rfl
set_option maxRecDepth 20000 in
theorem xct_4_133 : xassoc xCt (4, 133) = some (mX2_stateOf, 1, 0) := rfl
set_option maxRecDepth 20000 in
theorem xct_4_136 : xassoc xCt (4, 136) = some (mX2_waitsOf, 1, 0) := rfl
set_option maxRecDepth 20000 in
theorem xct_4_139 : xassoc xCt (4, 139) = some (mX2_ringSet, 0, 0) := rfl
set_option maxRecDepth 20000 in
theorem xct_4_142 : xassoc xCt (4, 142) = some (mX4_has, 2, 1) := rfl
set_option maxRecDepth 20000 in
theorem xct_4_160 : xassoc xCt (4, 160) = some (mX2_setIn, 1, 0) := rfl
set_option maxRecDepth 20000 in
theorem xct_4_163 : xassoc xCt (4, 163) = some (mJ6_bitCount_0f7a4, 1, 1) := rfl
set_option maxRecDepth 20000 in
theorem xct_4_168 : xassoc xCt (4, 168) = some (mX2_isStuck, 0, 0) := rfl
set_option maxRecDepth 20000 in
theorem xct_4_178 : xassoc xCt (4, 178) = some (mX4_tryNow, 0, 0) := rfl
set_option maxRecDepth 20000 in
theorem xct_4_182 : xassoc xCt (4, 182) = some (mX2_passSlot, 0, 0) := rfl
set_option maxRecDepth 20000 in
theorem xct_4_188 : xassoc xCt (4, 188) = some (mX2_areDone, 1, 0) := rfl
set_option maxRecDepth 20000 in
theorem xct_4_198 : xassoc xCt (4, 198) = some (mX1_takeBack, 1, 0) := rfl
set_option maxRecDepth 20000 in
theorem xct_4_201 : xassoc xCt (4, 201) = some (mX4_isSave, 1, 1) := rfl
set_option maxRecDepth 20000 in
theorem xct_4_204 : xassoc xCt (4, 204) = some (mX2_copyFrom, 1, 0) := rfl
set_option maxRecDepth 20000 in
theorem xct_6_12 : xassoc xCt (6, 12) = some (mX4_count, 1, 0) := rfl
set_option maxRecDepth 20000 in
theorem xct_6_18 : xassoc xCt (6, 18) = some (mX4_of, 2, 0) := rfl
set_option maxRecDepth 20000 in
theorem xct_6_22 : xassoc xCt (6, 22) = some (mX4_inbox, 2, 0) := rfl
set_option maxRecDepth 20000 in
theorem xct_6_25 : xassoc xCt (6, 25) = some (mX4_command, 3, 0) := rfl
set_option maxRecDepth 20000 in
theorem xct_6_29 : xassoc xCt (6, 29) = some (mX4_holder, 1, 0) := rfl
set_option maxRecDepth 20000 in
theorem xct_6_32 : xassoc xCt (6, 32) = some (mL_low, 2, 1) := rfl
set_option maxRecDepth 20000 in
theorem xct_6_37 : xassoc xCt (6, 37) = some (mX4_prefer, 2, 0) := rfl
set_option maxRecDepth 20000 in
theorem xct_6_40 : xassoc xCt (6, 40) = some (mX4_post, 2, 0) := rfl
set_option maxRecDepth 20000 in
theorem xct_6_43 : xassoc xCt (6, 43) = some (mX4_release, 1, 0) := rfl
set_option maxRecDepth 20000 in
theorem xct_6_46 : xassoc xCt (6, 46) = some (mX4_run, 0, 0) := rfl
set_option maxRecDepth 20000 in
theorem xct_6_50 : xassoc xCt (6, 50) = some (mX4_step, 1, 0) := rfl
set_option maxRecDepth 20000 in
theorem xct_6_53 : xassoc xCt (6, 53) = some (mX4_add, 3, 0) := rfl
set_option maxRecDepth 20000 in
theorem xct_6_56 : xassoc xCt (6, 56) = some (mX4_init, 0, 2) := rfl
set_option maxRecDepth 20000 in
theorem xct_6_57 : xassoc xCt (6, 57) = some (mL_digest, 1, 1) := rfl
set_option maxRecDepth 20000 in
theorem xct_6_61 : xassoc xCt (6, 61) = some (mX4_save, 1, 0) := rfl
set_option maxRecDepth 20000 in
theorem xct_6_64 : xassoc xCt (6, 64) = some (mX4_undo, 0, 0) := rfl
set_option maxRecDepth 20000 in
theorem xct_6_67 : xassoc xCt (6, 67) = some (mX4_restore, 1, 0) := rfl
set_option maxRecDepth 20000 in
theorem xct_6_70 : xassoc xCt (6, 70) = some (mL_cell, 2, 1) := rfl
set_option maxRecDepth 20000 in
theorem xct_6_74 : xassoc xCt (6, 74) = some (mL_act, 3, 1) := rfl
set_option maxRecDepth 20000 in
theorem xct_6_78 : xassoc xCt (6, 78) = some (mL_addsUp, 1, 1) := rfl
set_option maxRecDepth 20000 in
theorem xct_6_82 : xassoc xCt (6, 82) = some (mX4_slotsLeft, 0, 0) := rfl
def xnone {α : Type} (l : List ((Nat × Nat) × α)) (k : Nat × Nat) : Bool := l.all (fun q => !decide (k = q.1))
theorem xnone_of {α : Type} {k : Nat × Nat} : ∀ {l : List ((Nat × Nat) × α)}, xnone l k = true → xassoc l k = none := by
  intro l
  induction l with
  | nil => intro _; rfl
  | cons q l ih =>
    obtain ⟨n, a⟩ := q
    intro h
    unfold xnone at h
    rw [List.all_cons, Bool.and_eq_true] at h
    rw [xassoc, if_neg (by simpa using h.1)]
    exact ih h.2
theorem xcn_0_3 : xassoc xCt (0, 3) = none := xnone_of (by decide +kernel)
theorem xcn_0_24 : xassoc xCt (0, 24) = none := xnone_of (by decide +kernel)
theorem xcn_0_69 : xassoc xCt (0, 69) = none := xnone_of (by decide +kernel)
theorem xcn_1_3 : xassoc xCt (1, 3) = none := xnone_of (by decide +kernel)
theorem xcn_2_3 : xassoc xCt (2, 3) = none := xnone_of (by decide +kernel)
theorem xcn_2_29 : xassoc xCt (2, 29) = none := xnone_of (by decide +kernel)
theorem xcn_2_80 : xassoc xCt (2, 80) = none := xnone_of (by decide +kernel)
theorem xcn_3_3 : xassoc xCt (3, 3) = none := xnone_of (by decide +kernel)
theorem xcn_4_1 : xassoc xCt (4, 1) = none := xnone_of (by decide +kernel)
theorem xmn_0_24 : xassoc xMt (0, 24) = none := xnone_of (by decide +kernel)
theorem xmn_2_29 : xassoc xMt (2, 29) = none := xnone_of (by decide +kernel)
theorem xmt_0_69 : xassoc xMt (0, 69) = some 0 := by decide +kernel
theorem xmt_2_80 : xassoc xMt (2, 80) = some 0 := by decide +kernel
end
section
section PR
variable {E : Nat × Nat × Nat} {S : xSh} {V : xV} {Q : Option Value → xSh → xV → Prop} {st : List Value} {l0 l1 l2 l3 l4 l5 l6 l7 l8 l9 l10 l11 l12 l13 l14 : Option Value} {a b c d e f g : Nat} {x y z : Int32} {u w : Int64} {va vb : Value}
-- java/lang/Integer.bitCount(I)I
theorem pJ6_bitCount_0f7a4_0 : xX E mJ6_bitCount_0f7a4 0 [some (.int x)] st S V Q ↔ xX E mJ6_bitCount_0f7a4 1 [some (.int x)] (.int x :: st) S V Q := xi (show decode cJ6_bitCount_0f7a4 0 = .ok (.iload_n 0, 1) by decide +kernel) rfl
theorem pJ6_bitCount_0f7a4_1 : xX E mJ6_bitCount_0f7a4 1 [some (.int x)] st S V Q ↔ xX E mJ6_bitCount_0f7a4 2 [some (.int x)] (.int x :: st) S V Q := xi (show decode cJ6_bitCount_0f7a4 1 = .ok (.iload_n 0, 1) by decide +kernel) rfl
theorem pJ6_bitCount_0f7a4_2 : xX E mJ6_bitCount_0f7a4 2 [l0] st S V Q ↔ xX E mJ6_bitCount_0f7a4 3 [l0] (.int (nI 1) :: st) S V Q := xi (show decode cJ6_bitCount_0f7a4 2 = .ok (.iconst 1, 1) by decide +kernel) rfl
theorem pJ6_bitCount_0f7a4_3 : xX E mJ6_bitCount_0f7a4 3 [l0] (.int y :: .int x :: st) S V Q ↔ xX E mJ6_bitCount_0f7a4 4 [l0] (.int ((x.toUInt32 >>> (y.toUInt32 &&& Int32.toUInt32 31)).toInt32) :: st) S V Q := xi (show decode cJ6_bitCount_0f7a4 3 = .ok (.iushr, 1) by decide +kernel) rfl
theorem pJ6_bitCount_0f7a4_4 : xX E mJ6_bitCount_0f7a4 4 [l0] st S V Q ↔ xX E mJ6_bitCount_0f7a4 7 [l0] (.int (nI 1431655765) :: st) S V Q := xi_ldcw (show decode cJ6_bitCount_0f7a4 4 = .ok (.ldc_w 265, 3) by decide +kernel) xit_10_265
theorem pJ6_bitCount_0f7a4_7 : xX E mJ6_bitCount_0f7a4 7 [l0] (.int y :: .int x :: st) S V Q ↔ xX E mJ6_bitCount_0f7a4 8 [l0] (.int (x &&& y) :: st) S V Q := xi (show decode cJ6_bitCount_0f7a4 7 = .ok (.iand, 1) by decide +kernel) rfl
theorem pJ6_bitCount_0f7a4_8 : xX E mJ6_bitCount_0f7a4 8 [l0] (.int y :: .int x :: st) S V Q ↔ xX E mJ6_bitCount_0f7a4 9 [l0] (.int (x - y) :: st) S V Q := xi (show decode cJ6_bitCount_0f7a4 8 = .ok (.isub, 1) by decide +kernel) rfl
theorem pJ6_bitCount_0f7a4_9 : xX E mJ6_bitCount_0f7a4 9 [l0] (.int x :: st) S V Q ↔ xX E mJ6_bitCount_0f7a4 10 [some (.int x)] st S V Q := xi (show decode cJ6_bitCount_0f7a4 9 = .ok (.istore_n 0, 1) by decide +kernel) rfl
theorem pJ6_bitCount_0f7a4_10 : xX E mJ6_bitCount_0f7a4 10 [some (.int x)] st S V Q ↔ xX E mJ6_bitCount_0f7a4 11 [some (.int x)] (.int x :: st) S V Q := xi (show decode cJ6_bitCount_0f7a4 10 = .ok (.iload_n 0, 1) by decide +kernel) rfl
theorem pJ6_bitCount_0f7a4_11 : xX E mJ6_bitCount_0f7a4 11 [l0] st S V Q ↔ xX E mJ6_bitCount_0f7a4 14 [l0] (.int (nI 858993459) :: st) S V Q := xi_ldcw (show decode cJ6_bitCount_0f7a4 11 = .ok (.ldc_w 266, 3) by decide +kernel) xit_10_266
theorem pJ6_bitCount_0f7a4_14 : xX E mJ6_bitCount_0f7a4 14 [l0] (.int y :: .int x :: st) S V Q ↔ xX E mJ6_bitCount_0f7a4 15 [l0] (.int (x &&& y) :: st) S V Q := xi (show decode cJ6_bitCount_0f7a4 14 = .ok (.iand, 1) by decide +kernel) rfl
theorem pJ6_bitCount_0f7a4_15 : xX E mJ6_bitCount_0f7a4 15 [some (.int x)] st S V Q ↔ xX E mJ6_bitCount_0f7a4 16 [some (.int x)] (.int x :: st) S V Q := xi (show decode cJ6_bitCount_0f7a4 15 = .ok (.iload_n 0, 1) by decide +kernel) rfl
theorem pJ6_bitCount_0f7a4_16 : xX E mJ6_bitCount_0f7a4 16 [l0] st S V Q ↔ xX E mJ6_bitCount_0f7a4 17 [l0] (.int (nI 2) :: st) S V Q := xi (show decode cJ6_bitCount_0f7a4 16 = .ok (.iconst 2, 1) by decide +kernel) rfl
theorem pJ6_bitCount_0f7a4_17 : xX E mJ6_bitCount_0f7a4 17 [l0] (.int y :: .int x :: st) S V Q ↔ xX E mJ6_bitCount_0f7a4 18 [l0] (.int ((x.toUInt32 >>> (y.toUInt32 &&& Int32.toUInt32 31)).toInt32) :: st) S V Q := xi (show decode cJ6_bitCount_0f7a4 17 = .ok (.iushr, 1) by decide +kernel) rfl
theorem pJ6_bitCount_0f7a4_18 : xX E mJ6_bitCount_0f7a4 18 [l0] st S V Q ↔ xX E mJ6_bitCount_0f7a4 21 [l0] (.int (nI 858993459) :: st) S V Q := xi_ldcw (show decode cJ6_bitCount_0f7a4 18 = .ok (.ldc_w 266, 3) by decide +kernel) xit_10_266
theorem pJ6_bitCount_0f7a4_21 : xX E mJ6_bitCount_0f7a4 21 [l0] (.int y :: .int x :: st) S V Q ↔ xX E mJ6_bitCount_0f7a4 22 [l0] (.int (x &&& y) :: st) S V Q := xi (show decode cJ6_bitCount_0f7a4 21 = .ok (.iand, 1) by decide +kernel) rfl
theorem pJ6_bitCount_0f7a4_22 : xX E mJ6_bitCount_0f7a4 22 [l0] (.int y :: .int x :: st) S V Q ↔ xX E mJ6_bitCount_0f7a4 23 [l0] (.int (x + y) :: st) S V Q := xi (show decode cJ6_bitCount_0f7a4 22 = .ok (.iadd, 1) by decide +kernel) rfl
theorem pJ6_bitCount_0f7a4_23 : xX E mJ6_bitCount_0f7a4 23 [l0] (.int x :: st) S V Q ↔ xX E mJ6_bitCount_0f7a4 24 [some (.int x)] st S V Q := xi (show decode cJ6_bitCount_0f7a4 23 = .ok (.istore_n 0, 1) by decide +kernel) rfl
theorem pJ6_bitCount_0f7a4_24 : xX E mJ6_bitCount_0f7a4 24 [some (.int x)] st S V Q ↔ xX E mJ6_bitCount_0f7a4 25 [some (.int x)] (.int x :: st) S V Q := xi (show decode cJ6_bitCount_0f7a4 24 = .ok (.iload_n 0, 1) by decide +kernel) rfl
theorem pJ6_bitCount_0f7a4_25 : xX E mJ6_bitCount_0f7a4 25 [some (.int x)] st S V Q ↔ xX E mJ6_bitCount_0f7a4 26 [some (.int x)] (.int x :: st) S V Q := xi (show decode cJ6_bitCount_0f7a4 25 = .ok (.iload_n 0, 1) by decide +kernel) rfl
theorem pJ6_bitCount_0f7a4_26 : xX E mJ6_bitCount_0f7a4 26 [l0] st S V Q ↔ xX E mJ6_bitCount_0f7a4 27 [l0] (.int (nI 4) :: st) S V Q := xi (show decode cJ6_bitCount_0f7a4 26 = .ok (.iconst 4, 1) by decide +kernel) rfl
theorem pJ6_bitCount_0f7a4_27 : xX E mJ6_bitCount_0f7a4 27 [l0] (.int y :: .int x :: st) S V Q ↔ xX E mJ6_bitCount_0f7a4 28 [l0] (.int ((x.toUInt32 >>> (y.toUInt32 &&& Int32.toUInt32 31)).toInt32) :: st) S V Q := xi (show decode cJ6_bitCount_0f7a4 27 = .ok (.iushr, 1) by decide +kernel) rfl
theorem pJ6_bitCount_0f7a4_28 : xX E mJ6_bitCount_0f7a4 28 [l0] (.int y :: .int x :: st) S V Q ↔ xX E mJ6_bitCount_0f7a4 29 [l0] (.int (x + y) :: st) S V Q := xi (show decode cJ6_bitCount_0f7a4 28 = .ok (.iadd, 1) by decide +kernel) rfl
theorem pJ6_bitCount_0f7a4_29 : xX E mJ6_bitCount_0f7a4 29 [l0] st S V Q ↔ xX E mJ6_bitCount_0f7a4 32 [l0] (.int (nI 252645135) :: st) S V Q := xi_ldcw (show decode cJ6_bitCount_0f7a4 29 = .ok (.ldc_w 267, 3) by decide +kernel) xit_10_267
theorem pJ6_bitCount_0f7a4_32 : xX E mJ6_bitCount_0f7a4 32 [l0] (.int y :: .int x :: st) S V Q ↔ xX E mJ6_bitCount_0f7a4 33 [l0] (.int (x &&& y) :: st) S V Q := xi (show decode cJ6_bitCount_0f7a4 32 = .ok (.iand, 1) by decide +kernel) rfl
theorem pJ6_bitCount_0f7a4_33 : xX E mJ6_bitCount_0f7a4 33 [l0] (.int x :: st) S V Q ↔ xX E mJ6_bitCount_0f7a4 34 [some (.int x)] st S V Q := xi (show decode cJ6_bitCount_0f7a4 33 = .ok (.istore_n 0, 1) by decide +kernel) rfl
theorem pJ6_bitCount_0f7a4_34 : xX E mJ6_bitCount_0f7a4 34 [some (.int x)] st S V Q ↔ xX E mJ6_bitCount_0f7a4 35 [some (.int x)] (.int x :: st) S V Q := xi (show decode cJ6_bitCount_0f7a4 34 = .ok (.iload_n 0, 1) by decide +kernel) rfl
theorem pJ6_bitCount_0f7a4_35 : xX E mJ6_bitCount_0f7a4 35 [some (.int x)] st S V Q ↔ xX E mJ6_bitCount_0f7a4 36 [some (.int x)] (.int x :: st) S V Q := xi (show decode cJ6_bitCount_0f7a4 35 = .ok (.iload_n 0, 1) by decide +kernel) rfl
theorem pJ6_bitCount_0f7a4_36 : xX E mJ6_bitCount_0f7a4 36 [l0] st S V Q ↔ xX E mJ6_bitCount_0f7a4 38 [l0] (.int (nI 8) :: st) S V Q := xi (show decode cJ6_bitCount_0f7a4 36 = .ok (.bipush 8, 2) by decide +kernel) rfl
theorem pJ6_bitCount_0f7a4_38 : xX E mJ6_bitCount_0f7a4 38 [l0] (.int y :: .int x :: st) S V Q ↔ xX E mJ6_bitCount_0f7a4 39 [l0] (.int ((x.toUInt32 >>> (y.toUInt32 &&& Int32.toUInt32 31)).toInt32) :: st) S V Q := xi (show decode cJ6_bitCount_0f7a4 38 = .ok (.iushr, 1) by decide +kernel) rfl
theorem pJ6_bitCount_0f7a4_39 : xX E mJ6_bitCount_0f7a4 39 [l0] (.int y :: .int x :: st) S V Q ↔ xX E mJ6_bitCount_0f7a4 40 [l0] (.int (x + y) :: st) S V Q := xi (show decode cJ6_bitCount_0f7a4 39 = .ok (.iadd, 1) by decide +kernel) rfl
theorem pJ6_bitCount_0f7a4_40 : xX E mJ6_bitCount_0f7a4 40 [l0] (.int x :: st) S V Q ↔ xX E mJ6_bitCount_0f7a4 41 [some (.int x)] st S V Q := xi (show decode cJ6_bitCount_0f7a4 40 = .ok (.istore_n 0, 1) by decide +kernel) rfl
theorem pJ6_bitCount_0f7a4_41 : xX E mJ6_bitCount_0f7a4 41 [some (.int x)] st S V Q ↔ xX E mJ6_bitCount_0f7a4 42 [some (.int x)] (.int x :: st) S V Q := xi (show decode cJ6_bitCount_0f7a4 41 = .ok (.iload_n 0, 1) by decide +kernel) rfl
theorem pJ6_bitCount_0f7a4_42 : xX E mJ6_bitCount_0f7a4 42 [some (.int x)] st S V Q ↔ xX E mJ6_bitCount_0f7a4 43 [some (.int x)] (.int x :: st) S V Q := xi (show decode cJ6_bitCount_0f7a4 42 = .ok (.iload_n 0, 1) by decide +kernel) rfl
theorem pJ6_bitCount_0f7a4_43 : xX E mJ6_bitCount_0f7a4 43 [l0] st S V Q ↔ xX E mJ6_bitCount_0f7a4 45 [l0] (.int (nI 16) :: st) S V Q := xi (show decode cJ6_bitCount_0f7a4 43 = .ok (.bipush 16, 2) by decide +kernel) rfl
theorem pJ6_bitCount_0f7a4_45 : xX E mJ6_bitCount_0f7a4 45 [l0] (.int y :: .int x :: st) S V Q ↔ xX E mJ6_bitCount_0f7a4 46 [l0] (.int ((x.toUInt32 >>> (y.toUInt32 &&& Int32.toUInt32 31)).toInt32) :: st) S V Q := xi (show decode cJ6_bitCount_0f7a4 45 = .ok (.iushr, 1) by decide +kernel) rfl
theorem pJ6_bitCount_0f7a4_46 : xX E mJ6_bitCount_0f7a4 46 [l0] (.int y :: .int x :: st) S V Q ↔ xX E mJ6_bitCount_0f7a4 47 [l0] (.int (x + y) :: st) S V Q := xi (show decode cJ6_bitCount_0f7a4 46 = .ok (.iadd, 1) by decide +kernel) rfl
theorem pJ6_bitCount_0f7a4_47 : xX E mJ6_bitCount_0f7a4 47 [l0] (.int x :: st) S V Q ↔ xX E mJ6_bitCount_0f7a4 48 [some (.int x)] st S V Q := xi (show decode cJ6_bitCount_0f7a4 47 = .ok (.istore_n 0, 1) by decide +kernel) rfl
theorem pJ6_bitCount_0f7a4_48 : xX E mJ6_bitCount_0f7a4 48 [some (.int x)] st S V Q ↔ xX E mJ6_bitCount_0f7a4 49 [some (.int x)] (.int x :: st) S V Q := xi (show decode cJ6_bitCount_0f7a4 48 = .ok (.iload_n 0, 1) by decide +kernel) rfl
theorem pJ6_bitCount_0f7a4_49 : xX E mJ6_bitCount_0f7a4 49 [l0] st S V Q ↔ xX E mJ6_bitCount_0f7a4 51 [l0] (.int (nI 63) :: st) S V Q := xi (show decode cJ6_bitCount_0f7a4 49 = .ok (.bipush 63, 2) by decide +kernel) rfl
theorem pJ6_bitCount_0f7a4_51 : xX E mJ6_bitCount_0f7a4 51 [l0] (.int y :: .int x :: st) S V Q ↔ xX E mJ6_bitCount_0f7a4 52 [l0] (.int (x &&& y) :: st) S V Q := xi (show decode cJ6_bitCount_0f7a4 51 = .ok (.iand, 1) by decide +kernel) rfl
theorem pJ6_bitCount_0f7a4_52 : xX E mJ6_bitCount_0f7a4 52 [l0] [.int x] S V Q ↔ Q (some (.int x)) S V := xi_retI (show decode cJ6_bitCount_0f7a4 52 = .ok (.ireturn, 1) by decide +kernel) rfl
end PR
end
section
section PR
variable {E : Nat × Nat × Nat} {S : xSh} {V : xV} {Q : Option Value → xSh → xV → Prop} {st : List Value} {l0 l1 l2 l3 l4 l5 l6 l7 l8 l9 l10 l11 l12 l13 l14 : Option Value} {a b c d e f g : Nat} {x y z : Int32} {u w : Int64} {va vb : Value}
-- TurnSlots$Context.addToSum(I)V
theorem pX0_addToSum_0 : xX E mX0_addToSum 0 [some (.ref a), l1] st S V Q ↔ xX E mX0_addToSum 1 [some (.ref a), l1] (.ref a :: st) S V Q := xi (show decode cX0_addToSum 0 = .ok (.aload_n 0, 1) by decide +kernel) rfl
theorem pX0_addToSum_1 : xX E mX0_addToSum 1 [some (.ref a), l1] st S V Q ↔ xX E mX0_addToSum 2 [some (.ref a), l1] (.ref a :: st) S V Q := xi (show decode cX0_addToSum 1 = .ok (.aload_n 0, 1) by decide +kernel) rfl
theorem pX0_addToSum_2 (h : xkd S a = 1) : xX E mX0_addToSum 2 [l0, l1] (.ref a :: st) S V Q ↔ xX E mX0_addToSum 5 [l0, l1] (.int (V a 7) :: st) S V Q := xi_getI (show decode cX0_addToSum 2 = .ok (.getfield 40, 3) by decide +kernel) xft_0_40 rfl h
theorem pX0_addToSum_5 : xX E mX0_addToSum 5 [l0, some (.int x)] st S V Q ↔ xX E mX0_addToSum 6 [l0, some (.int x)] (.int x :: st) S V Q := xi (show decode cX0_addToSum 5 = .ok (.iload_n 1, 1) by decide +kernel) rfl
theorem pX0_addToSum_6 : xX E mX0_addToSum 6 [l0, l1] (.int y :: .int x :: st) S V Q ↔ xX E mX0_addToSum 7 [l0, l1] (.int (x + y) :: st) S V Q := xi (show decode cX0_addToSum 6 = .ok (.iadd, 1) by decide +kernel) rfl
theorem pX0_addToSum_7 : xX E mX0_addToSum 7 [l0, l1] st S V Q ↔ xX E mX0_addToSum 10 [l0, l1] (.int (nI 1000) :: st) S V Q := xi (show decode cX0_addToSum 7 = .ok (.sipush 1000, 3) by decide +kernel) rfl
theorem pX0_addToSum_10i (h : ¬ y = 0) : xX E mX0_addToSum 10 [l0, l1] (.int y :: .int x :: st) S V Q ↔ xX E mX0_addToSum 11 [l0, l1] (.int (x - x / y * y) :: st) S V Q := xi_remG (show decode cX0_addToSum 10 = .ok (.irem, 1) by decide +kernel) h
theorem pX0_addToSum_10 (h0 : 0 < b) (ha : a < 2147483648) (hb : b < 2147483648) : xX E mX0_addToSum 10 [l0, l1] (.int (nI b) :: .int (nI a) :: st) S V Q ↔ xX E mX0_addToSum 11 [l0, l1] (.int (nI (a % b)) :: st) S V Q := xi_rem (show decode cX0_addToSum 10 = .ok (.irem, 1) by decide +kernel) h0 ha hb
theorem pX0_addToSum_11 (h : xkd S a = 1) : xX E mX0_addToSum 11 [l0, l1] (.int x :: .ref a :: st) S V Q ↔ xX E mX0_addToSum 14 [l0, l1] st S (xup V a 7 x) Q := xi_putI (show decode cX0_addToSum 11 = .ok (.putfield 40, 3) by decide +kernel) xft_0_40 (by decide) rfl rfl h
theorem pX0_addToSum_14 : xX E mX0_addToSum 14 [l0, l1] [] S V Q ↔ Q none S V := xi_retV (show decode cX0_addToSum 14 = .ok (.return_, 1) by decide +kernel) rfl
-- TurnSlots$Context.append(II)V
theorem pX0_append_0 : xX E mX0_append 0 [some (.ref a), l1, l2] st S V Q ↔ xX E mX0_append 1 [some (.ref a), l1, l2] (.ref a :: st) S V Q := xi (show decode cX0_append 0 = .ok (.aload_n 0, 1) by decide +kernel) rfl
theorem pX0_append_1 (h : xkd S a = 1) : xX E mX0_append 1 [l0, l1, l2] (.ref a :: st) S V Q ↔ xX E mX0_append 4 [l0, l1, l2] (.int (V a 4) :: st) S V Q := xi_getI (show decode cX0_append 1 = .ok (.getfield 30, 3) by decide +kernel) xft_0_30 rfl h
theorem pX0_append_4 : xX E mX0_append 4 [l0, l1, l2] st S V Q ↔ xX E mX0_append 6 [l0, l1, l2] (.int (nI 16) :: st) S V Q := xi (show decode cX0_append 4 = .ok (.bipush 16, 2) by decide +kernel) rfl
theorem pX0_append_6 : xX E mX0_append 6 [l0, l1, l2] (.int y :: .int x :: st) S V Q ↔ if y ≤ x then xX E mX0_append 39 [l0, l1, l2] st S V Q else xX E mX0_append 9 [l0, l1, l2] st S V Q := xi_icmp (show decode cX0_append 6 = .ok (.if_icmp .ge 33, 3) by decide +kernel) (by decide) xcb_ge
theorem pX0_append_9 : xX E mX0_append 9 [some (.ref a), l1, l2] st S V Q ↔ xX E mX0_append 10 [some (.ref a), l1, l2] (.ref a :: st) S V Q := xi (show decode cX0_append 9 = .ok (.aload_n 0, 1) by decide +kernel) rfl
theorem pX0_append_10 (h : xkd S a = 1) : xX E mX0_append 10 [l0, l1, l2] (.ref a :: st) S V Q ↔ xX E mX0_append 13 [l0, l1, l2] (va_rf (xrf S a 0) :: st) S V Q := xi_getR (show decode cX0_append 10 = .ok (.getfield 9, 3) by decide +kernel) xft_0_9 rfl h
theorem pX0_append_13 : xX E mX0_append 13 [some (.ref a), l1, l2] st S V Q ↔ xX E mX0_append 14 [some (.ref a), l1, l2] (.ref a :: st) S V Q := xi (show decode cX0_append 13 = .ok (.aload_n 0, 1) by decide +kernel) rfl
theorem pX0_append_14 (h : xkd S a = 1) : xX E mX0_append 14 [l0, l1, l2] (.ref a :: st) S V Q ↔ xX E mX0_append 17 [l0, l1, l2] (.int (V a 4) :: st) S V Q := xi_getI (show decode cX0_append 14 = .ok (.getfield 30, 3) by decide +kernel) xft_0_30 rfl h
theorem pX0_append_17 : xX E mX0_append 17 [l0, some (.int x), l2] st S V Q ↔ xX E mX0_append 18 [l0, some (.int x), l2] (.int x :: st) S V Q := xi (show decode cX0_append 17 = .ok (.iload_n 1, 1) by decide +kernel) rfl
theorem pX0_append_18 (h : xkd S a = 7) (hi : b < xln S a) (hn : xln S a < 2147483648) : xX E mX0_append 18 [l0, l1, l2] (.int x :: .int (nI b) :: .ref a :: st) S V Q ↔ xX E mX0_append 19 [l0, l1, l2] st S (xup V a b x) Q := xi_iast (show decode cX0_append 18 = .ok (.iastore, 1) by decide +kernel) h hi hn
theorem pX0_append_19 : xX E mX0_append 19 [some (.ref a), l1, l2] st S V Q ↔ xX E mX0_append 20 [some (.ref a), l1, l2] (.ref a :: st) S V Q := xi (show decode cX0_append 19 = .ok (.aload_n 0, 1) by decide +kernel) rfl
theorem pX0_append_20 (h : xkd S a = 1) : xX E mX0_append 20 [l0, l1, l2] (.ref a :: st) S V Q ↔ xX E mX0_append 23 [l0, l1, l2] (va_rf (xrf S a 1) :: st) S V Q := xi_getR (show decode cX0_append 20 = .ok (.getfield 15, 3) by decide +kernel) xft_0_15 rfl h
theorem pX0_append_23 : xX E mX0_append 23 [some (.ref a), l1, l2] st S V Q ↔ xX E mX0_append 24 [some (.ref a), l1, l2] (.ref a :: st) S V Q := xi (show decode cX0_append 23 = .ok (.aload_n 0, 1) by decide +kernel) rfl
theorem pX0_append_24 (h : xkd S a = 1) : xX E mX0_append 24 [l0, l1, l2] (.ref a :: st) S V Q ↔ xX E mX0_append 27 [l0, l1, l2] (.int (V a 4) :: st) S V Q := xi_getI (show decode cX0_append 24 = .ok (.getfield 30, 3) by decide +kernel) xft_0_30 rfl h
theorem pX0_append_27 : xX E mX0_append 27 [l0, l1, some (.int x)] st S V Q ↔ xX E mX0_append 28 [l0, l1, some (.int x)] (.int x :: st) S V Q := xi (show decode cX0_append 27 = .ok (.iload_n 2, 1) by decide +kernel) rfl
theorem pX0_append_28 (h : xkd S a = 7) (hi : b < xln S a) (hn : xln S a < 2147483648) : xX E mX0_append 28 [l0, l1, l2] (.int x :: .int (nI b) :: .ref a :: st) S V Q ↔ xX E mX0_append 29 [l0, l1, l2] st S (xup V a b x) Q := xi_iast (show decode cX0_append 28 = .ok (.iastore, 1) by decide +kernel) h hi hn
theorem pX0_append_29 : xX E mX0_append 29 [some (.ref a), l1, l2] st S V Q ↔ xX E mX0_append 30 [some (.ref a), l1, l2] (.ref a :: st) S V Q := xi (show decode cX0_append 29 = .ok (.aload_n 0, 1) by decide +kernel) rfl
theorem pX0_append_30 : xX E mX0_append 30 [l0, l1, l2] (.ref a :: st) S V Q ↔ xX E mX0_append 31 [l0, l1, l2] (.ref a :: .ref a :: st) S V Q := xi (show decode cX0_append 30 = .ok (.dup, 1) by decide +kernel) rfl
theorem pX0_append_30i : xX E mX0_append 30 [l0, l1, l2] (.int x :: st) S V Q ↔ xX E mX0_append 31 [l0, l1, l2] (.int x :: .int x :: st) S V Q := xi (show decode cX0_append 30 = .ok (.dup, 1) by decide +kernel) rfl
theorem pX0_append_31 (h : xkd S a = 1) : xX E mX0_append 31 [l0, l1, l2] (.ref a :: st) S V Q ↔ xX E mX0_append 34 [l0, l1, l2] (.int (V a 4) :: st) S V Q := xi_getI (show decode cX0_append 31 = .ok (.getfield 30, 3) by decide +kernel) xft_0_30 rfl h
theorem pX0_append_34 : xX E mX0_append 34 [l0, l1, l2] st S V Q ↔ xX E mX0_append 35 [l0, l1, l2] (.int (nI 1) :: st) S V Q := xi (show decode cX0_append 34 = .ok (.iconst 1, 1) by decide +kernel) rfl
theorem pX0_append_35 : xX E mX0_append 35 [l0, l1, l2] (.int y :: .int x :: st) S V Q ↔ xX E mX0_append 36 [l0, l1, l2] (.int (x + y) :: st) S V Q := xi (show decode cX0_append 35 = .ok (.iadd, 1) by decide +kernel) rfl
theorem pX0_append_36 (h : xkd S a = 1) : xX E mX0_append 36 [l0, l1, l2] (.int x :: .ref a :: st) S V Q ↔ xX E mX0_append 39 [l0, l1, l2] st S (xup V a 4 x) Q := xi_putI (show decode cX0_append 36 = .ok (.putfield 30, 3) by decide +kernel) xft_0_30 (by decide) rfl rfl h
theorem pX0_append_39 : xX E mX0_append 39 [l0, l1, l2] [] S V Q ↔ Q none S V := xi_retV (show decode cX0_append 39 = .ok (.return_, 1) by decide +kernel) rfl
-- TurnSlots$Context.receive(I)V
theorem pX0_receive_0 : xX E mX0_receive 0 [some (.ref a), l1] st S V Q ↔ xX E mX0_receive 1 [some (.ref a), l1] (.ref a :: st) S V Q := xi (show decode cX0_receive 0 = .ok (.aload_n 0, 1) by decide +kernel) rfl
theorem pX0_receive_1 (h : xkd S a = 1) : xX E mX0_receive 1 [l0, l1] (.ref a :: st) S V Q ↔ xX E mX0_receive 4 [l0, l1] (.int (V a 9) :: st) S V Q := xi_getI (show decode cX0_receive 1 = .ok (.getfield 46, 3) by decide +kernel) xft_0_46 rfl h
theorem pX0_receive_4 : xX E mX0_receive 4 [l0, l1] st S V Q ↔ xX E mX0_receive 5 [l0, l1] (.int (nI 4) :: st) S V Q := xi (show decode cX0_receive 4 = .ok (.iconst 4, 1) by decide +kernel) rfl
theorem pX0_receive_5 : xX E mX0_receive 5 [l0, l1] (.int y :: .int x :: st) S V Q ↔ if y ≤ x then xX E mX0_receive 28 [l0, l1] st S V Q else xX E mX0_receive 8 [l0, l1] st S V Q := xi_icmp (show decode cX0_receive 5 = .ok (.if_icmp .ge 23, 3) by decide +kernel) (by decide) xcb_ge
theorem pX0_receive_8 : xX E mX0_receive 8 [some (.ref a), l1] st S V Q ↔ xX E mX0_receive 9 [some (.ref a), l1] (.ref a :: st) S V Q := xi (show decode cX0_receive 8 = .ok (.aload_n 0, 1) by decide +kernel) rfl
theorem pX0_receive_9 (h : xkd S a = 1) : xX E mX0_receive 9 [l0, l1] (.ref a :: st) S V Q ↔ xX E mX0_receive 12 [l0, l1] (va_rf (xrf S a 2) :: st) S V Q := xi_getR (show decode cX0_receive 9 = .ok (.getfield 18, 3) by decide +kernel) xft_0_18 rfl h
theorem pX0_receive_12 : xX E mX0_receive 12 [some (.ref a), l1] st S V Q ↔ xX E mX0_receive 13 [some (.ref a), l1] (.ref a :: st) S V Q := xi (show decode cX0_receive 12 = .ok (.aload_n 0, 1) by decide +kernel) rfl
theorem pX0_receive_13 (h : xkd S a = 1) : xX E mX0_receive 13 [l0, l1] (.ref a :: st) S V Q ↔ xX E mX0_receive 16 [l0, l1] (.int (V a 9) :: st) S V Q := xi_getI (show decode cX0_receive 13 = .ok (.getfield 46, 3) by decide +kernel) xft_0_46 rfl h
theorem pX0_receive_16 : xX E mX0_receive 16 [l0, some (.int x)] st S V Q ↔ xX E mX0_receive 17 [l0, some (.int x)] (.int x :: st) S V Q := xi (show decode cX0_receive 16 = .ok (.iload_n 1, 1) by decide +kernel) rfl
theorem pX0_receive_17 (h : xkd S a = 7) (hi : b < xln S a) (hn : xln S a < 2147483648) : xX E mX0_receive 17 [l0, l1] (.int x :: .int (nI b) :: .ref a :: st) S V Q ↔ xX E mX0_receive 18 [l0, l1] st S (xup V a b x) Q := xi_iast (show decode cX0_receive 17 = .ok (.iastore, 1) by decide +kernel) h hi hn
theorem pX0_receive_18 : xX E mX0_receive 18 [some (.ref a), l1] st S V Q ↔ xX E mX0_receive 19 [some (.ref a), l1] (.ref a :: st) S V Q := xi (show decode cX0_receive 18 = .ok (.aload_n 0, 1) by decide +kernel) rfl
theorem pX0_receive_19 : xX E mX0_receive 19 [l0, l1] (.ref a :: st) S V Q ↔ xX E mX0_receive 20 [l0, l1] (.ref a :: .ref a :: st) S V Q := xi (show decode cX0_receive 19 = .ok (.dup, 1) by decide +kernel) rfl
theorem pX0_receive_19i : xX E mX0_receive 19 [l0, l1] (.int x :: st) S V Q ↔ xX E mX0_receive 20 [l0, l1] (.int x :: .int x :: st) S V Q := xi (show decode cX0_receive 19 = .ok (.dup, 1) by decide +kernel) rfl
theorem pX0_receive_20 (h : xkd S a = 1) : xX E mX0_receive 20 [l0, l1] (.ref a :: st) S V Q ↔ xX E mX0_receive 23 [l0, l1] (.int (V a 9) :: st) S V Q := xi_getI (show decode cX0_receive 20 = .ok (.getfield 46, 3) by decide +kernel) xft_0_46 rfl h
theorem pX0_receive_23 : xX E mX0_receive 23 [l0, l1] st S V Q ↔ xX E mX0_receive 24 [l0, l1] (.int (nI 1) :: st) S V Q := xi (show decode cX0_receive 23 = .ok (.iconst 1, 1) by decide +kernel) rfl
theorem pX0_receive_24 : xX E mX0_receive 24 [l0, l1] (.int y :: .int x :: st) S V Q ↔ xX E mX0_receive 25 [l0, l1] (.int (x + y) :: st) S V Q := xi (show decode cX0_receive 24 = .ok (.iadd, 1) by decide +kernel) rfl
theorem pX0_receive_25 (h : xkd S a = 1) : xX E mX0_receive 25 [l0, l1] (.int x :: .ref a :: st) S V Q ↔ xX E mX0_receive 28 [l0, l1] st S (xup V a 9 x) Q := xi_putI (show decode cX0_receive 25 = .ok (.putfield 46, 3) by decide +kernel) xft_0_46 (by decide) rfl rfl h
theorem pX0_receive_28 : xX E mX0_receive 28 [l0, l1] [] S V Q ↔ Q none S V := xi_retV (show decode cX0_receive 28 = .ok (.return_, 1) by decide +kernel) rfl
-- TurnSlots$Machine.account(II)V
theorem pX2_account_0 : xX E mX2_account 0 [l0, l1, some (.int x)] st S V Q ↔ xX E mX2_account 1 [l0, l1, some (.int x)] (.int x :: st) S V Q := xi (show decode cX2_account 0 = .ok (.iload_n 2, 1) by decide +kernel) rfl
theorem pX2_account_1 : xX E mX2_account 1 [l0, l1, l2] st S V Q ↔ xX E mX2_account 3 [l0, l1, l2] (.int (-6) :: st) S V Q := xi (show decode cX2_account 1 = .ok (.bipush (-6), 2) by decide +kernel) rfl
theorem pX2_account_3 : xX E mX2_account 3 [l0, l1, l2] (.int y :: .int x :: st) S V Q ↔ if ¬ x = y then xX E mX2_account 34 [l0, l1, l2] st S V Q else xX E mX2_account 6 [l0, l1, l2] st S V Q := xi_icmp (show decode cX2_account 3 = .ok (.if_icmp .ne 31, 3) by decide +kernel) (by decide) xcb_ne
theorem pX2_account_6 : xX E mX2_account 6 [some (.ref a), l1, l2] st S V Q ↔ xX E mX2_account 7 [some (.ref a), l1, l2] (.ref a :: st) S V Q := xi (show decode cX2_account 6 = .ok (.aload_n 0, 1) by decide +kernel) rfl
theorem pX2_account_7 : xX E mX2_account 7 [l0, l1, l2] (.ref a :: st) S V Q ↔ xX E mX2_account 8 [l0, l1, l2] (.ref a :: .ref a :: st) S V Q := xi (show decode cX2_account 7 = .ok (.dup, 1) by decide +kernel) rfl
theorem pX2_account_7i : xX E mX2_account 7 [l0, l1, l2] (.int x :: st) S V Q ↔ xX E mX2_account 8 [l0, l1, l2] (.int x :: .int x :: st) S V Q := xi (show decode cX2_account 7 = .ok (.dup, 1) by decide +kernel) rfl
theorem pX2_account_8 (h : xkd S a = 3) : xX E mX2_account 8 [l0, l1, l2] (.ref a :: st) S V Q ↔ xX E mX2_account 11 [l0, l1, l2] (.int (V a 4) :: st) S V Q := xi_getI (show decode cX2_account 8 = .ok (.getfield 39, 3) by decide +kernel) xft_2_39 rfl h
theorem pX2_account_11 : xX E mX2_account 11 [l0, l1, l2] st S V Q ↔ xX E mX2_account 12 [l0, l1, l2] (.int (nI 1) :: st) S V Q := xi (show decode cX2_account 11 = .ok (.iconst 1, 1) by decide +kernel) rfl
theorem pX2_account_12 : xX E mX2_account 12 [l0, l1, l2] (.int y :: .int x :: st) S V Q ↔ xX E mX2_account 13 [l0, l1, l2] (.int (x + y) :: st) S V Q := xi (show decode cX2_account 12 = .ok (.iadd, 1) by decide +kernel) rfl
theorem pX2_account_13 (h : xkd S a = 3) : xX E mX2_account 13 [l0, l1, l2] (.int x :: .ref a :: st) S V Q ↔ xX E mX2_account 16 [l0, l1, l2] st S (xup V a 4 x) Q := xi_putI (show decode cX2_account 13 = .ok (.putfield 39, 3) by decide +kernel) xft_2_39 (by decide) rfl rfl h
theorem pX2_account_16 : xX E mX2_account 16 [some (.ref a), l1, l2] st S V Q ↔ xX E mX2_account 17 [some (.ref a), l1, l2] (.ref a :: st) S V Q := xi (show decode cX2_account 16 = .ok (.aload_n 0, 1) by decide +kernel) rfl
theorem pX2_account_17 (h : xkd S a = 3) : xX E mX2_account 17 [l0, l1, l2] (.ref a :: st) S V Q ↔ xX E mX2_account 20 [l0, l1, l2] (va_rf (xrf S a 0) :: st) S V Q := xi_getR (show decode cX2_account 17 = .ok (.getfield 11, 3) by decide +kernel) xft_2_11 rfl h
theorem pX2_account_20 : xX E mX2_account 20 [l0, some (.int x), l2] st S V Q ↔ xX E mX2_account 21 [l0, some (.int x), l2] (.int x :: st) S V Q := xi (show decode cX2_account 20 = .ok (.iload_n 1, 1) by decide +kernel) rfl
theorem pX2_account_21 (h : xkd S a = 10 ∨ xkd S a = 11) (hi : b < xln S a) (hn : xln S a < 2147483648) : xX E mX2_account 21 [l0, l1, l2] (.int (nI b) :: .ref a :: st) S V Q ↔ xX E mX2_account 22 [l0, l1, l2] (va_rf (xrf S a b) :: st) S V Q := xi_aald (show decode cX2_account 21 = .ok (.aaload, 1) by decide +kernel) h hi hn
theorem pX2_account_22 (h : xkd S a = 1) : xX E mX2_account 22 [l0, l1, l2] (.ref a :: st) S V Q ↔ xX E mX2_account 25 [l0, l1, l2] (va_rf (xrf S a 3) :: st) S V Q := xi_getR (show decode cX2_account 22 = .ok (.getfield 120, 3) by decide +kernel) xft_2_120 rfl h
theorem pX2_account_25 : xX E mX2_account 25 [l0, l1, l2] st S V Q ↔ xX E mX2_account 26 [l0, l1, l2] (.int (nI 3) :: st) S V Q := xi (show decode cX2_account 25 = .ok (.iconst 3, 1) by decide +kernel) rfl
theorem pX2_account_26 : xX E mX2_account 26 [l0, l1, l2] (.int x :: .ref a :: st) S V Q ↔ xX E mX2_account 27 [l0, l1, l2] (.int x :: .ref a :: .int x :: .ref a :: st) S V Q := xi (show decode cX2_account 26 = .ok (.dup2, 1) by decide +kernel) rfl
theorem pX2_account_27 (h : xkd S a = 7 ∨ xkd S a = 14) (hi : b < xln S a) (hn : xln S a < 2147483648) : xX E mX2_account 27 [l0, l1, l2] (.int (nI b) :: .ref a :: st) S V Q ↔ xX E mX2_account 28 [l0, l1, l2] (.int (V a b) :: st) S V Q := xi_iald (show decode cX2_account 27 = .ok (.iaload, 1) by decide +kernel) h hi hn
theorem pX2_account_28 : xX E mX2_account 28 [l0, l1, l2] st S V Q ↔ xX E mX2_account 29 [l0, l1, l2] (.int (nI 1) :: st) S V Q := xi (show decode cX2_account 28 = .ok (.iconst 1, 1) by decide +kernel) rfl
theorem pX2_account_29 : xX E mX2_account 29 [l0, l1, l2] (.int y :: .int x :: st) S V Q ↔ xX E mX2_account 30 [l0, l1, l2] (.int (x + y) :: st) S V Q := xi (show decode cX2_account 29 = .ok (.iadd, 1) by decide +kernel) rfl
theorem pX2_account_30 (h : xkd S a = 7) (hi : b < xln S a) (hn : xln S a < 2147483648) : xX E mX2_account 30 [l0, l1, l2] (.int x :: .int (nI b) :: .ref a :: st) S V Q ↔ xX E mX2_account 31 [l0, l1, l2] st S (xup V a b x) Q := xi_iast (show decode cX2_account 30 = .ok (.iastore, 1) by decide +kernel) h hi hn
theorem pX2_account_31 : xX E mX2_account 31 [l0, l1, l2] st S V Q ↔ xX E mX2_account 97 [l0, l1, l2] st S V Q := xi_goto (show decode cX2_account 31 = .ok (.goto 66, 3) by decide +kernel) (by decide)
theorem pX2_account_34 : xX E mX2_account 34 [l0, l1, some (.int x)] st S V Q ↔ xX E mX2_account 35 [l0, l1, some (.int x)] (.int x :: st) S V Q := xi (show decode cX2_account 34 = .ok (.iload_n 2, 1) by decide +kernel) rfl
theorem pX2_account_35 : xX E mX2_account 35 [l0, some (.int x), l2] st S V Q ↔ xX E mX2_account 36 [l0, some (.int x), l2] (.int x :: st) S V Q := xi (show decode cX2_account 35 = .ok (.iload_n 1, 1) by decide +kernel) rfl
theorem pX2_account_36 : xX E mX2_account 36 [l0, l1, l2] (.int y :: .int x :: st) S V Q ↔ if ¬ x = y then xX E mX2_account 57 [l0, l1, l2] st S V Q else xX E mX2_account 39 [l0, l1, l2] st S V Q := xi_icmp (show decode cX2_account 36 = .ok (.if_icmp .ne 21, 3) by decide +kernel) (by decide) xcb_ne
theorem pX2_account_39 : xX E mX2_account 39 [some (.ref a), l1, l2] st S V Q ↔ xX E mX2_account 40 [some (.ref a), l1, l2] (.ref a :: st) S V Q := xi (show decode cX2_account 39 = .ok (.aload_n 0, 1) by decide +kernel) rfl
theorem pX2_account_40 (h : xkd S a = 3) : xX E mX2_account 40 [l0, l1, l2] (.ref a :: st) S V Q ↔ xX E mX2_account 43 [l0, l1, l2] (va_rf (xrf S a 0) :: st) S V Q := xi_getR (show decode cX2_account 40 = .ok (.getfield 11, 3) by decide +kernel) xft_2_11 rfl h
theorem pX2_account_43 : xX E mX2_account 43 [l0, some (.int x), l2] st S V Q ↔ xX E mX2_account 44 [l0, some (.int x), l2] (.int x :: st) S V Q := xi (show decode cX2_account 43 = .ok (.iload_n 1, 1) by decide +kernel) rfl
theorem pX2_account_44 (h : xkd S a = 10 ∨ xkd S a = 11) (hi : b < xln S a) (hn : xln S a < 2147483648) : xX E mX2_account 44 [l0, l1, l2] (.int (nI b) :: .ref a :: st) S V Q ↔ xX E mX2_account 45 [l0, l1, l2] (va_rf (xrf S a b) :: st) S V Q := xi_aald (show decode cX2_account 44 = .ok (.aaload, 1) by decide +kernel) h hi hn
theorem pX2_account_45 (h : xkd S a = 1) : xX E mX2_account 45 [l0, l1, l2] (.ref a :: st) S V Q ↔ xX E mX2_account 48 [l0, l1, l2] (va_rf (xrf S a 3) :: st) S V Q := xi_getR (show decode cX2_account 45 = .ok (.getfield 120, 3) by decide +kernel) xft_2_120 rfl h
theorem pX2_account_48 : xX E mX2_account 48 [l0, l1, l2] st S V Q ↔ xX E mX2_account 49 [l0, l1, l2] (.int (nI 0) :: st) S V Q := xi (show decode cX2_account 48 = .ok (.iconst 0, 1) by decide +kernel) rfl
theorem pX2_account_49 : xX E mX2_account 49 [l0, l1, l2] (.int x :: .ref a :: st) S V Q ↔ xX E mX2_account 50 [l0, l1, l2] (.int x :: .ref a :: .int x :: .ref a :: st) S V Q := xi (show decode cX2_account 49 = .ok (.dup2, 1) by decide +kernel) rfl
theorem pX2_account_50 (h : xkd S a = 7 ∨ xkd S a = 14) (hi : b < xln S a) (hn : xln S a < 2147483648) : xX E mX2_account 50 [l0, l1, l2] (.int (nI b) :: .ref a :: st) S V Q ↔ xX E mX2_account 51 [l0, l1, l2] (.int (V a b) :: st) S V Q := xi_iald (show decode cX2_account 50 = .ok (.iaload, 1) by decide +kernel) h hi hn
theorem pX2_account_51 : xX E mX2_account 51 [l0, l1, l2] st S V Q ↔ xX E mX2_account 52 [l0, l1, l2] (.int (nI 1) :: st) S V Q := xi (show decode cX2_account 51 = .ok (.iconst 1, 1) by decide +kernel) rfl
theorem pX2_account_52 : xX E mX2_account 52 [l0, l1, l2] (.int y :: .int x :: st) S V Q ↔ xX E mX2_account 53 [l0, l1, l2] (.int (x + y) :: st) S V Q := xi (show decode cX2_account 52 = .ok (.iadd, 1) by decide +kernel) rfl
theorem pX2_account_53 (h : xkd S a = 7) (hi : b < xln S a) (hn : xln S a < 2147483648) : xX E mX2_account 53 [l0, l1, l2] (.int x :: .int (nI b) :: .ref a :: st) S V Q ↔ xX E mX2_account 54 [l0, l1, l2] st S (xup V a b x) Q := xi_iast (show decode cX2_account 53 = .ok (.iastore, 1) by decide +kernel) h hi hn
theorem pX2_account_54 : xX E mX2_account 54 [l0, l1, l2] st S V Q ↔ xX E mX2_account 97 [l0, l1, l2] st S V Q := xi_goto (show decode cX2_account 54 = .ok (.goto 43, 3) by decide +kernel) (by decide)
theorem pX2_account_57 : xX E mX2_account 57 [some (.ref a), l1, l2] st S V Q ↔ xX E mX2_account 58 [some (.ref a), l1, l2] (.ref a :: st) S V Q := xi (show decode cX2_account 57 = .ok (.aload_n 0, 1) by decide +kernel) rfl
theorem pX2_account_58 : xX E mX2_account 58 [l0, l1, l2] (.ref a :: st) S V Q ↔ xX E mX2_account 59 [l0, l1, l2] (.ref a :: .ref a :: st) S V Q := xi (show decode cX2_account 58 = .ok (.dup, 1) by decide +kernel) rfl
theorem pX2_account_58i : xX E mX2_account 58 [l0, l1, l2] (.int x :: st) S V Q ↔ xX E mX2_account 59 [l0, l1, l2] (.int x :: .int x :: st) S V Q := xi (show decode cX2_account 58 = .ok (.dup, 1) by decide +kernel) rfl
theorem pX2_account_59 (h : xkd S a = 3) : xX E mX2_account 59 [l0, l1, l2] (.ref a :: st) S V Q ↔ xX E mX2_account 62 [l0, l1, l2] (.int (V a 5) :: st) S V Q := xi_getI (show decode cX2_account 59 = .ok (.getfield 42, 3) by decide +kernel) xft_2_42 rfl h
theorem pX2_account_62 : xX E mX2_account 62 [l0, l1, l2] st S V Q ↔ xX E mX2_account 63 [l0, l1, l2] (.int (nI 1) :: st) S V Q := xi (show decode cX2_account 62 = .ok (.iconst 1, 1) by decide +kernel) rfl
theorem pX2_account_63 : xX E mX2_account 63 [l0, l1, l2] (.int y :: .int x :: st) S V Q ↔ xX E mX2_account 64 [l0, l1, l2] (.int (x + y) :: st) S V Q := xi (show decode cX2_account 63 = .ok (.iadd, 1) by decide +kernel) rfl
theorem pX2_account_64 (h : xkd S a = 3) : xX E mX2_account 64 [l0, l1, l2] (.int x :: .ref a :: st) S V Q ↔ xX E mX2_account 67 [l0, l1, l2] st S (xup V a 5 x) Q := xi_putI (show decode cX2_account 64 = .ok (.putfield 42, 3) by decide +kernel) xft_2_42 (by decide) rfl rfl h
theorem pX2_account_67 : xX E mX2_account 67 [some (.ref a), l1, l2] st S V Q ↔ xX E mX2_account 68 [some (.ref a), l1, l2] (.ref a :: st) S V Q := xi (show decode cX2_account 67 = .ok (.aload_n 0, 1) by decide +kernel) rfl
theorem pX2_account_68 (h : xkd S a = 3) : xX E mX2_account 68 [l0, l1, l2] (.ref a :: st) S V Q ↔ xX E mX2_account 71 [l0, l1, l2] (va_rf (xrf S a 0) :: st) S V Q := xi_getR (show decode cX2_account 68 = .ok (.getfield 11, 3) by decide +kernel) xft_2_11 rfl h
theorem pX2_account_71 : xX E mX2_account 71 [l0, some (.int x), l2] st S V Q ↔ xX E mX2_account 72 [l0, some (.int x), l2] (.int x :: st) S V Q := xi (show decode cX2_account 71 = .ok (.iload_n 1, 1) by decide +kernel) rfl
theorem pX2_account_72 (h : xkd S a = 10 ∨ xkd S a = 11) (hi : b < xln S a) (hn : xln S a < 2147483648) : xX E mX2_account 72 [l0, l1, l2] (.int (nI b) :: .ref a :: st) S V Q ↔ xX E mX2_account 73 [l0, l1, l2] (va_rf (xrf S a b) :: st) S V Q := xi_aald (show decode cX2_account 72 = .ok (.aaload, 1) by decide +kernel) h hi hn
theorem pX2_account_73 (h : xkd S a = 1) : xX E mX2_account 73 [l0, l1, l2] (.ref a :: st) S V Q ↔ xX E mX2_account 76 [l0, l1, l2] (va_rf (xrf S a 3) :: st) S V Q := xi_getR (show decode cX2_account 73 = .ok (.getfield 120, 3) by decide +kernel) xft_2_120 rfl h
theorem pX2_account_76 : xX E mX2_account 76 [l0, l1, l2] st S V Q ↔ xX E mX2_account 77 [l0, l1, l2] (.int (nI 2) :: st) S V Q := xi (show decode cX2_account 76 = .ok (.iconst 2, 1) by decide +kernel) rfl
theorem pX2_account_77 : xX E mX2_account 77 [l0, l1, l2] (.int x :: .ref a :: st) S V Q ↔ xX E mX2_account 78 [l0, l1, l2] (.int x :: .ref a :: .int x :: .ref a :: st) S V Q := xi (show decode cX2_account 77 = .ok (.dup2, 1) by decide +kernel) rfl
theorem pX2_account_78 (h : xkd S a = 7 ∨ xkd S a = 14) (hi : b < xln S a) (hn : xln S a < 2147483648) : xX E mX2_account 78 [l0, l1, l2] (.int (nI b) :: .ref a :: st) S V Q ↔ xX E mX2_account 79 [l0, l1, l2] (.int (V a b) :: st) S V Q := xi_iald (show decode cX2_account 78 = .ok (.iaload, 1) by decide +kernel) h hi hn
theorem pX2_account_79 : xX E mX2_account 79 [l0, l1, l2] st S V Q ↔ xX E mX2_account 80 [l0, l1, l2] (.int (nI 1) :: st) S V Q := xi (show decode cX2_account 79 = .ok (.iconst 1, 1) by decide +kernel) rfl
theorem pX2_account_80 : xX E mX2_account 80 [l0, l1, l2] (.int y :: .int x :: st) S V Q ↔ xX E mX2_account 81 [l0, l1, l2] (.int (x + y) :: st) S V Q := xi (show decode cX2_account 80 = .ok (.iadd, 1) by decide +kernel) rfl
theorem pX2_account_81 (h : xkd S a = 7) (hi : b < xln S a) (hn : xln S a < 2147483648) : xX E mX2_account 81 [l0, l1, l2] (.int x :: .int (nI b) :: .ref a :: st) S V Q ↔ xX E mX2_account 82 [l0, l1, l2] st S (xup V a b x) Q := xi_iast (show decode cX2_account 81 = .ok (.iastore, 1) by decide +kernel) h hi hn
theorem pX2_account_82 : xX E mX2_account 82 [some (.ref a), l1, l2] st S V Q ↔ xX E mX2_account 83 [some (.ref a), l1, l2] (.ref a :: st) S V Q := xi (show decode cX2_account 82 = .ok (.aload_n 0, 1) by decide +kernel) rfl
theorem pX2_account_83 (h : xkd S a = 3) : xX E mX2_account 83 [l0, l1, l2] (.ref a :: st) S V Q ↔ xX E mX2_account 86 [l0, l1, l2] (va_rf (xrf S a 0) :: st) S V Q := xi_getR (show decode cX2_account 83 = .ok (.getfield 11, 3) by decide +kernel) xft_2_11 rfl h
theorem pX2_account_86 : xX E mX2_account 86 [l0, l1, some (.int x)] st S V Q ↔ xX E mX2_account 87 [l0, l1, some (.int x)] (.int x :: st) S V Q := xi (show decode cX2_account 86 = .ok (.iload_n 2, 1) by decide +kernel) rfl
theorem pX2_account_87 (h : xkd S a = 10 ∨ xkd S a = 11) (hi : b < xln S a) (hn : xln S a < 2147483648) : xX E mX2_account 87 [l0, l1, l2] (.int (nI b) :: .ref a :: st) S V Q ↔ xX E mX2_account 88 [l0, l1, l2] (va_rf (xrf S a b) :: st) S V Q := xi_aald (show decode cX2_account 87 = .ok (.aaload, 1) by decide +kernel) h hi hn
theorem pX2_account_88 (h : xkd S a = 1) : xX E mX2_account 88 [l0, l1, l2] (.ref a :: st) S V Q ↔ xX E mX2_account 91 [l0, l1, l2] (va_rf (xrf S a 3) :: st) S V Q := xi_getR (show decode cX2_account 88 = .ok (.getfield 120, 3) by decide +kernel) xft_2_120 rfl h
theorem pX2_account_91 : xX E mX2_account 91 [l0, l1, l2] st S V Q ↔ xX E mX2_account 92 [l0, l1, l2] (.int (nI 1) :: st) S V Q := xi (show decode cX2_account 91 = .ok (.iconst 1, 1) by decide +kernel) rfl
theorem pX2_account_92 : xX E mX2_account 92 [l0, l1, l2] (.int x :: .ref a :: st) S V Q ↔ xX E mX2_account 93 [l0, l1, l2] (.int x :: .ref a :: .int x :: .ref a :: st) S V Q := xi (show decode cX2_account 92 = .ok (.dup2, 1) by decide +kernel) rfl
theorem pX2_account_93 (h : xkd S a = 7 ∨ xkd S a = 14) (hi : b < xln S a) (hn : xln S a < 2147483648) : xX E mX2_account 93 [l0, l1, l2] (.int (nI b) :: .ref a :: st) S V Q ↔ xX E mX2_account 94 [l0, l1, l2] (.int (V a b) :: st) S V Q := xi_iald (show decode cX2_account 93 = .ok (.iaload, 1) by decide +kernel) h hi hn
theorem pX2_account_94 : xX E mX2_account 94 [l0, l1, l2] st S V Q ↔ xX E mX2_account 95 [l0, l1, l2] (.int (nI 1) :: st) S V Q := xi (show decode cX2_account 94 = .ok (.iconst 1, 1) by decide +kernel) rfl
theorem pX2_account_95 : xX E mX2_account 95 [l0, l1, l2] (.int y :: .int x :: st) S V Q ↔ xX E mX2_account 96 [l0, l1, l2] (.int (x + y) :: st) S V Q := xi (show decode cX2_account 95 = .ok (.iadd, 1) by decide +kernel) rfl
theorem pX2_account_96 (h : xkd S a = 7) (hi : b < xln S a) (hn : xln S a < 2147483648) : xX E mX2_account 96 [l0, l1, l2] (.int x :: .int (nI b) :: .ref a :: st) S V Q ↔ xX E mX2_account 97 [l0, l1, l2] st S (xup V a b x) Q := xi_iast (show decode cX2_account 96 = .ok (.iastore, 1) by decide +kernel) h hi hn
theorem pX2_account_97 : xX E mX2_account 97 [l0, l1, l2] [] S V Q ↔ Q none S V := xi_retV (show decode cX2_account 97 = .ok (.return_, 1) by decide +kernel) rfl
-- TurnSlots$Machine.freeIfHeldBy(II)V
theorem pX2_freeIfHeldBy_0 : xX E mX2_freeIfHeldBy 0 [some (.ref a), l1, l2] st S V Q ↔ xX E mX2_freeIfHeldBy 1 [some (.ref a), l1, l2] (.ref a :: st) S V Q := xi (show decode cX2_freeIfHeldBy 0 = .ok (.aload_n 0, 1) by decide +kernel) rfl
theorem pX2_freeIfHeldBy_1 (h : xkd S a = 3) : xX E mX2_freeIfHeldBy 1 [l0, l1, l2] (.ref a :: st) S V Q ↔ xX E mX2_freeIfHeldBy 4 [l0, l1, l2] (va_rf (xrf S a 1) :: st) S V Q := xi_getR (show decode cX2_freeIfHeldBy 1 = .ok (.getfield 17, 3) by decide +kernel) xft_2_17 rfl h
theorem pX2_freeIfHeldBy_4 : xX E mX2_freeIfHeldBy 4 [l0, l1, some (.int x)] st S V Q ↔ xX E mX2_freeIfHeldBy 5 [l0, l1, some (.int x)] (.int x :: st) S V Q := xi (show decode cX2_freeIfHeldBy 4 = .ok (.iload_n 2, 1) by decide +kernel) rfl
theorem pX2_freeIfHeldBy_5 (h : xkd S a = 7 ∨ xkd S a = 14) (hi : b < xln S a) (hn : xln S a < 2147483648) : xX E mX2_freeIfHeldBy 5 [l0, l1, l2] (.int (nI b) :: .ref a :: st) S V Q ↔ xX E mX2_freeIfHeldBy 6 [l0, l1, l2] (.int (V a b) :: st) S V Q := xi_iald (show decode cX2_freeIfHeldBy 5 = .ok (.iaload, 1) by decide +kernel) h hi hn
theorem pX2_freeIfHeldBy_6 : xX E mX2_freeIfHeldBy 6 [l0, some (.int x), l2] st S V Q ↔ xX E mX2_freeIfHeldBy 7 [l0, some (.int x), l2] (.int x :: st) S V Q := xi (show decode cX2_freeIfHeldBy 6 = .ok (.iload_n 1, 1) by decide +kernel) rfl
theorem pX2_freeIfHeldBy_7 : xX E mX2_freeIfHeldBy 7 [l0, l1, l2] (.int y :: .int x :: st) S V Q ↔ if ¬ x = y then xX E mX2_freeIfHeldBy 18 [l0, l1, l2] st S V Q else xX E mX2_freeIfHeldBy 10 [l0, l1, l2] st S V Q := xi_icmp (show decode cX2_freeIfHeldBy 7 = .ok (.if_icmp .ne 11, 3) by decide +kernel) (by decide) xcb_ne
theorem pX2_freeIfHeldBy_10 : xX E mX2_freeIfHeldBy 10 [some (.ref a), l1, l2] st S V Q ↔ xX E mX2_freeIfHeldBy 11 [some (.ref a), l1, l2] (.ref a :: st) S V Q := xi (show decode cX2_freeIfHeldBy 10 = .ok (.aload_n 0, 1) by decide +kernel) rfl
theorem pX2_freeIfHeldBy_11 (h : xkd S a = 3) : xX E mX2_freeIfHeldBy 11 [l0, l1, l2] (.ref a :: st) S V Q ↔ xX E mX2_freeIfHeldBy 14 [l0, l1, l2] (va_rf (xrf S a 1) :: st) S V Q := xi_getR (show decode cX2_freeIfHeldBy 11 = .ok (.getfield 17, 3) by decide +kernel) xft_2_17 rfl h
theorem pX2_freeIfHeldBy_14 : xX E mX2_freeIfHeldBy 14 [l0, l1, some (.int x)] st S V Q ↔ xX E mX2_freeIfHeldBy 15 [l0, l1, some (.int x)] (.int x :: st) S V Q := xi (show decode cX2_freeIfHeldBy 14 = .ok (.iload_n 2, 1) by decide +kernel) rfl
theorem pX2_freeIfHeldBy_15 : xX E mX2_freeIfHeldBy 15 [l0, l1, l2] st S V Q ↔ xX E mX2_freeIfHeldBy 17 [l0, l1, l2] (.int (-6) :: st) S V Q := xi (show decode cX2_freeIfHeldBy 15 = .ok (.bipush (-6), 2) by decide +kernel) rfl
theorem pX2_freeIfHeldBy_17 (h : xkd S a = 7) (hi : b < xln S a) (hn : xln S a < 2147483648) : xX E mX2_freeIfHeldBy 17 [l0, l1, l2] (.int x :: .int (nI b) :: .ref a :: st) S V Q ↔ xX E mX2_freeIfHeldBy 18 [l0, l1, l2] st S (xup V a b x) Q := xi_iast (show decode cX2_freeIfHeldBy 17 = .ok (.iastore, 1) by decide +kernel) h hi hn
theorem pX2_freeIfHeldBy_18 : xX E mX2_freeIfHeldBy 18 [l0, l1, l2] [] S V Q ↔ Q none S V := xi_retV (show decode cX2_freeIfHeldBy 18 = .ok (.return_, 1) by decide +kernel) rfl
-- TurnSlots$Machine.sendersTo(I)I
theorem pX2_sendersTo_0 : xX E mX2_sendersTo 0 [l0, l1, l2, l3, l4, l5] st S V Q ↔ xX E mX2_sendersTo 1 [l0, l1, l2, l3, l4, l5] (.int (nI 0) :: st) S V Q := xi (show decode cX2_sendersTo 0 = .ok (.iconst 0, 1) by decide +kernel) rfl
theorem pX2_sendersTo_1 (h : xnl l1 = true) : xX E mX2_sendersTo 1 [l0, l1, l2, l3, l4, l5] (.int x :: st) S V Q ↔ xX E mX2_sendersTo 2 [l0, l1, some (.int x), l3, l4, l5] st S V Q := xi_st1 (j := 1) (v := .int x) (show decode cX2_sendersTo 1 = .ok (.istore_n 2, 1) by decide +kernel) rfl h rfl rfl
theorem pX2_sendersTo_2 : xX E mX2_sendersTo 2 [l0, l1, l2, l3, l4, l5] st S V Q ↔ xX E mX2_sendersTo 3 [l0, l1, l2, l3, l4, l5] (.int (nI 0) :: st) S V Q := xi (show decode cX2_sendersTo 2 = .ok (.iconst 0, 1) by decide +kernel) rfl
theorem pX2_sendersTo_3 (h : xnl l2 = true) : xX E mX2_sendersTo 3 [l0, l1, l2, l3, l4, l5] (.int x :: st) S V Q ↔ xX E mX2_sendersTo 4 [l0, l1, l2, some (.int x), l4, l5] st S V Q := xi_st1 (j := 2) (v := .int x) (show decode cX2_sendersTo 3 = .ok (.istore_n 3, 1) by decide +kernel) rfl h rfl rfl
theorem pX2_sendersTo_4 : xX E mX2_sendersTo 4 [l0, l1, l2, some (.int x), l4, l5] st S V Q ↔ xX E mX2_sendersTo 5 [l0, l1, l2, some (.int x), l4, l5] (.int x :: st) S V Q := xi (show decode cX2_sendersTo 4 = .ok (.iload_n 3, 1) by decide +kernel) rfl
theorem pX2_sendersTo_5 : xX E mX2_sendersTo 5 [l0, l1, l2, l3, l4, l5] st S V Q ↔ xX E mX2_sendersTo 7 [l0, l1, l2, l3, l4, l5] (.int (nI 8) :: st) S V Q := xi (show decode cX2_sendersTo 5 = .ok (.bipush 8, 2) by decide +kernel) rfl
theorem pX2_sendersTo_7 : xX E mX2_sendersTo 7 [l0, l1, l2, l3, l4, l5] (.int y :: .int x :: st) S V Q ↔ if y ≤ x then xX E mX2_sendersTo 82 [l0, l1, l2, l3, l4, l5] st S V Q else xX E mX2_sendersTo 10 [l0, l1, l2, l3, l4, l5] st S V Q := xi_icmp (show decode cX2_sendersTo 7 = .ok (.if_icmp .ge 75, 3) by decide +kernel) (by decide) xcb_ge
theorem pX2_sendersTo_10 : xX E mX2_sendersTo 10 [some (.ref a), l1, l2, l3, l4, l5] st S V Q ↔ xX E mX2_sendersTo 11 [some (.ref a), l1, l2, l3, l4, l5] (.ref a :: st) S V Q := xi (show decode cX2_sendersTo 10 = .ok (.aload_n 0, 1) by decide +kernel) rfl
theorem pX2_sendersTo_11 (h : xkd S a = 3) : xX E mX2_sendersTo 11 [l0, l1, l2, l3, l4, l5] (.ref a :: st) S V Q ↔ xX E mX2_sendersTo 14 [l0, l1, l2, l3, l4, l5] (va_rf (xrf S a 0) :: st) S V Q := xi_getR (show decode cX2_sendersTo 11 = .ok (.getfield 11, 3) by decide +kernel) xft_2_11 rfl h
theorem pX2_sendersTo_14 : xX E mX2_sendersTo 14 [l0, l1, l2, some (.int x), l4, l5] st S V Q ↔ xX E mX2_sendersTo 15 [l0, l1, l2, some (.int x), l4, l5] (.int x :: st) S V Q := xi (show decode cX2_sendersTo 14 = .ok (.iload_n 3, 1) by decide +kernel) rfl
theorem pX2_sendersTo_15 (h : xkd S a = 10 ∨ xkd S a = 11) (hi : b < xln S a) (hn : xln S a < 2147483648) : xX E mX2_sendersTo 15 [l0, l1, l2, l3, l4, l5] (.int (nI b) :: .ref a :: st) S V Q ↔ xX E mX2_sendersTo 16 [l0, l1, l2, l3, l4, l5] (va_rf (xrf S a b) :: st) S V Q := xi_aald (show decode cX2_sendersTo 15 = .ok (.aaload, 1) by decide +kernel) h hi hn
theorem pX2_sendersTo_16 (h : xnl l3 = true) : xX E mX2_sendersTo 16 [l0, l1, l2, l3, l4, l5] (.ref a :: st) S V Q ↔ xX E mX2_sendersTo 18 [l0, l1, l2, l3, some (.ref a), l5] st S V Q := xi_st1 (j := 3) (v := .ref a) (show decode cX2_sendersTo 16 = .ok (.astore 4, 2) by decide +kernel) rfl h rfl rfl
theorem pX2_sendersTo_18 : xX E mX2_sendersTo 18 [l0, l1, l2, l3, some (.ref a), l5] st S V Q ↔ xX E mX2_sendersTo 20 [l0, l1, l2, l3, some (.ref a), l5] (.ref a :: st) S V Q := xi (show decode cX2_sendersTo 18 = .ok (.aload 4, 2) by decide +kernel) rfl
theorem pX2_sendersTo_20 (h : xkd S a = 1) : xX E mX2_sendersTo 20 [l0, l1, l2, l3, l4, l5] (.ref a :: st) S V Q ↔ xX E mX2_sendersTo 23 [l0, l1, l2, l3, l4, l5] (.int (V a 6) :: st) S V Q := xi_getI (show decode cX2_sendersTo 20 = .ok (.getfield 45, 3) by decide +kernel) xft_2_45 rfl h
theorem pX2_sendersTo_23 (h : xnl l4 = true) : xX E mX2_sendersTo 23 [l0, l1, l2, l3, l4, l5] (.int x :: st) S V Q ↔ xX E mX2_sendersTo 25 [l0, l1, l2, l3, l4, some (.int x)] st S V Q := xi_st1 (j := 4) (v := .int x) (show decode cX2_sendersTo 23 = .ok (.istore 5, 2) by decide +kernel) rfl h rfl rfl
theorem pX2_sendersTo_25 : xX E mX2_sendersTo 25 [l0, l1, l2, l3, l4, some (.int x)] st S V Q ↔ xX E mX2_sendersTo 27 [l0, l1, l2, l3, l4, some (.int x)] (.int x :: st) S V Q := xi (show decode cX2_sendersTo 25 = .ok (.iload 5, 2) by decide +kernel) rfl
theorem pX2_sendersTo_27 : xX E mX2_sendersTo 27 [l0, l1, l2, l3, some (.ref a), l5] st S V Q ↔ xX E mX2_sendersTo 29 [l0, l1, l2, l3, some (.ref a), l5] (.ref a :: st) S V Q := xi (show decode cX2_sendersTo 27 = .ok (.aload 4, 2) by decide +kernel) rfl
theorem pX2_sendersTo_29 (h : xkd S a = 1) : xX E mX2_sendersTo 29 [l0, l1, l2, l3, l4, l5] (.ref a :: st) S V Q ↔ xX E mX2_sendersTo 32 [l0, l1, l2, l3, l4, l5] (.int (V a 4) :: st) S V Q := xi_getI (show decode cX2_sendersTo 29 = .ok (.getfield 48, 3) by decide +kernel) xft_2_48 rfl h
theorem pX2_sendersTo_32 : xX E mX2_sendersTo 32 [l0, l1, l2, l3, l4, l5] (.int y :: .int x :: st) S V Q ↔ if y ≤ x then xX E mX2_sendersTo 76 [l0, l1, l2, l3, l4, l5] st S V Q else xX E mX2_sendersTo 35 [l0, l1, l2, l3, l4, l5] st S V Q := xi_icmp (show decode cX2_sendersTo 32 = .ok (.if_icmp .ge 44, 3) by decide +kernel) (by decide) xcb_ge
theorem pX2_sendersTo_35 : xX E mX2_sendersTo 35 [l0, l1, l2, some (.int x), l4, l5] st S V Q ↔ xX E mX2_sendersTo 36 [l0, l1, l2, some (.int x), l4, l5] (.int x :: st) S V Q := xi (show decode cX2_sendersTo 35 = .ok (.iload_n 3, 1) by decide +kernel) rfl
theorem pX2_sendersTo_36 : xX E mX2_sendersTo 36 [l0, some (.int x), l2, l3, l4, l5] st S V Q ↔ xX E mX2_sendersTo 37 [l0, some (.int x), l2, l3, l4, l5] (.int x :: st) S V Q := xi (show decode cX2_sendersTo 36 = .ok (.iload_n 1, 1) by decide +kernel) rfl
theorem pX2_sendersTo_37 : xX E mX2_sendersTo 37 [l0, l1, l2, l3, l4, l5] (.int y :: .int x :: st) S V Q ↔ if x = y then xX E mX2_sendersTo 76 [l0, l1, l2, l3, l4, l5] st S V Q else xX E mX2_sendersTo 40 [l0, l1, l2, l3, l4, l5] st S V Q := xi_icmp (show decode cX2_sendersTo 37 = .ok (.if_icmp .eq 39, 3) by decide +kernel) (by decide) xcb_eq
theorem pX2_sendersTo_40 : xX E mX2_sendersTo 40 [l0, l1, l2, l3, some (.ref a), l5] st S V Q ↔ xX E mX2_sendersTo 42 [l0, l1, l2, l3, some (.ref a), l5] (.ref a :: st) S V Q := xi (show decode cX2_sendersTo 40 = .ok (.aload 4, 2) by decide +kernel) rfl
theorem pX2_sendersTo_42 (h : xkd S a = 1) : xX E mX2_sendersTo 42 [l0, l1, l2, l3, l4, l5] (.ref a :: st) S V Q ↔ xX E mX2_sendersTo 45 [l0, l1, l2, l3, l4, l5] (va_rf (xrf S a 0) :: st) S V Q := xi_getR (show decode cX2_sendersTo 42 = .ok (.getfield 57, 3) by decide +kernel) xft_2_57 rfl h
theorem pX2_sendersTo_45 : xX E mX2_sendersTo 45 [l0, l1, l2, l3, l4, some (.int x)] st S V Q ↔ xX E mX2_sendersTo 47 [l0, l1, l2, l3, l4, some (.int x)] (.int x :: st) S V Q := xi (show decode cX2_sendersTo 45 = .ok (.iload 5, 2) by decide +kernel) rfl
theorem pX2_sendersTo_47 (h : xkd S a = 7 ∨ xkd S a = 14) (hi : b < xln S a) (hn : xln S a < 2147483648) : xX E mX2_sendersTo 47 [l0, l1, l2, l3, l4, l5] (.int (nI b) :: .ref a :: st) S V Q ↔ xX E mX2_sendersTo 48 [l0, l1, l2, l3, l4, l5] (.int (V a b) :: st) S V Q := xi_iald (show decode cX2_sendersTo 47 = .ok (.iaload, 1) by decide +kernel) h hi hn
theorem pX2_sendersTo_48 : xX E mX2_sendersTo 48 [l0, l1, l2, l3, l4, l5] st S V Q ↔ xX E mX2_sendersTo 49 [l0, l1, l2, l3, l4, l5] (.int (nI 1) :: st) S V Q := xi (show decode cX2_sendersTo 48 = .ok (.iconst 1, 1) by decide +kernel) rfl
theorem pX2_sendersTo_49 : xX E mX2_sendersTo 49 [l0, l1, l2, l3, l4, l5] (.int y :: .int x :: st) S V Q ↔ if ¬ x = y then xX E mX2_sendersTo 70 [l0, l1, l2, l3, l4, l5] st S V Q else xX E mX2_sendersTo 52 [l0, l1, l2, l3, l4, l5] st S V Q := xi_icmp (show decode cX2_sendersTo 49 = .ok (.if_icmp .ne 21, 3) by decide +kernel) (by decide) xcb_ne
theorem pX2_sendersTo_52 : xX E mX2_sendersTo 52 [l0, l1, l2, l3, some (.ref a), l5] st S V Q ↔ xX E mX2_sendersTo 54 [l0, l1, l2, l3, some (.ref a), l5] (.ref a :: st) S V Q := xi (show decode cX2_sendersTo 52 = .ok (.aload 4, 2) by decide +kernel) rfl
theorem pX2_sendersTo_54 (h : xkd S a = 1) : xX E mX2_sendersTo 54 [l0, l1, l2, l3, l4, l5] (.ref a :: st) S V Q ↔ xX E mX2_sendersTo 57 [l0, l1, l2, l3, l4, l5] (va_rf (xrf S a 1) :: st) S V Q := xi_getR (show decode cX2_sendersTo 54 = .ok (.getfield 54, 3) by decide +kernel) xft_2_54 rfl h
theorem pX2_sendersTo_57 : xX E mX2_sendersTo 57 [l0, l1, l2, l3, l4, some (.int x)] st S V Q ↔ xX E mX2_sendersTo 59 [l0, l1, l2, l3, l4, some (.int x)] (.int x :: st) S V Q := xi (show decode cX2_sendersTo 57 = .ok (.iload 5, 2) by decide +kernel) rfl
theorem pX2_sendersTo_59 (h : xkd S a = 7 ∨ xkd S a = 14) (hi : b < xln S a) (hn : xln S a < 2147483648) : xX E mX2_sendersTo 59 [l0, l1, l2, l3, l4, l5] (.int (nI b) :: .ref a :: st) S V Q ↔ xX E mX2_sendersTo 60 [l0, l1, l2, l3, l4, l5] (.int (V a b) :: st) S V Q := xi_iald (show decode cX2_sendersTo 59 = .ok (.iaload, 1) by decide +kernel) h hi hn
theorem pX2_sendersTo_60 : xX E mX2_sendersTo 60 [l0, some (.int x), l2, l3, l4, l5] st S V Q ↔ xX E mX2_sendersTo 61 [l0, some (.int x), l2, l3, l4, l5] (.int x :: st) S V Q := xi (show decode cX2_sendersTo 60 = .ok (.iload_n 1, 1) by decide +kernel) rfl
theorem pX2_sendersTo_61 : xX E mX2_sendersTo 61 [l0, l1, l2, l3, l4, l5] (.int y :: .int x :: st) S V Q ↔ if ¬ x = y then xX E mX2_sendersTo 70 [l0, l1, l2, l3, l4, l5] st S V Q else xX E mX2_sendersTo 64 [l0, l1, l2, l3, l4, l5] st S V Q := xi_icmp (show decode cX2_sendersTo 61 = .ok (.if_icmp .ne 9, 3) by decide +kernel) (by decide) xcb_ne
theorem pX2_sendersTo_64 : xX E mX2_sendersTo 64 [l0, l1, some (.int x), l3, l4, l5] st S V Q ↔ xX E mX2_sendersTo 65 [l0, l1, some (.int x), l3, l4, l5] (.int x :: st) S V Q := xi (show decode cX2_sendersTo 64 = .ok (.iload_n 2, 1) by decide +kernel) rfl
theorem pX2_sendersTo_65 : xX E mX2_sendersTo 65 [l0, l1, l2, l3, l4, l5] st S V Q ↔ xX E mX2_sendersTo 66 [l0, l1, l2, l3, l4, l5] (.int (nI 1) :: st) S V Q := xi (show decode cX2_sendersTo 65 = .ok (.iconst 1, 1) by decide +kernel) rfl
theorem pX2_sendersTo_66 : xX E mX2_sendersTo 66 [l0, l1, l2, some (.int x), l4, l5] st S V Q ↔ xX E mX2_sendersTo 67 [l0, l1, l2, some (.int x), l4, l5] (.int x :: st) S V Q := xi (show decode cX2_sendersTo 66 = .ok (.iload_n 3, 1) by decide +kernel) rfl
theorem pX2_sendersTo_67 : xX E mX2_sendersTo 67 [l0, l1, l2, l3, l4, l5] (.int y :: .int x :: st) S V Q ↔ xX E mX2_sendersTo 68 [l0, l1, l2, l3, l4, l5] (.int (x <<< (y &&& 31)) :: st) S V Q := xi (show decode cX2_sendersTo 67 = .ok (.ishl, 1) by decide +kernel) rfl
theorem pX2_sendersTo_68 : xX E mX2_sendersTo 68 [l0, l1, l2, l3, l4, l5] (.int y :: .int x :: st) S V Q ↔ xX E mX2_sendersTo 69 [l0, l1, l2, l3, l4, l5] (.int (x ||| y) :: st) S V Q := xi (show decode cX2_sendersTo 68 = .ok (.ior, 1) by decide +kernel) rfl
theorem pX2_sendersTo_69 (h : xnl l1 = true) : xX E mX2_sendersTo 69 [l0, l1, l2, l3, l4, l5] (.int x :: st) S V Q ↔ xX E mX2_sendersTo 70 [l0, l1, some (.int x), l3, l4, l5] st S V Q := xi_st1 (j := 1) (v := .int x) (show decode cX2_sendersTo 69 = .ok (.istore_n 2, 1) by decide +kernel) rfl h rfl rfl
theorem pX2_sendersTo_70 (h : xnl l4 = true) : xX E mX2_sendersTo 70 [l0, l1, l2, l3, l4, some (.int (nI a))] st S V Q ↔ xX E mX2_sendersTo 73 [l0, l1, l2, l3, l4, some (.int (nI (a + 1)))] st S V Q := xi_iinc (j := 4) (show decode cX2_sendersTo 70 = .ok (.iinc 5 1, 3) by decide +kernel) rfl h rfl (nI_add a 1) (Nat.le_of_ble_eq_true rfl) rfl
theorem pX2_sendersTo_73 : xX E mX2_sendersTo 73 [l0, l1, l2, l3, l4, l5] st S V Q ↔ xX E mX2_sendersTo 25 [l0, l1, l2, l3, l4, l5] st S V Q := xi_goto (show decode cX2_sendersTo 73 = .ok (.goto (-48), 3) by decide +kernel) (by decide)
theorem pX2_sendersTo_76 (h : xnl l2 = true) : xX E mX2_sendersTo 76 [l0, l1, l2, some (.int (nI a)), l4, l5] st S V Q ↔ xX E mX2_sendersTo 79 [l0, l1, l2, some (.int (nI (a + 1))), l4, l5] st S V Q := xi_iinc (j := 2) (show decode cX2_sendersTo 76 = .ok (.iinc 3 1, 3) by decide +kernel) rfl h rfl (nI_add a 1) (Nat.le_of_ble_eq_true rfl) rfl
theorem pX2_sendersTo_79 : xX E mX2_sendersTo 79 [l0, l1, l2, l3, l4, l5] st S V Q ↔ xX E mX2_sendersTo 4 [l0, l1, l2, l3, l4, l5] st S V Q := xi_goto (show decode cX2_sendersTo 79 = .ok (.goto (-75), 3) by decide +kernel) (by decide)
theorem pX2_sendersTo_82 : xX E mX2_sendersTo 82 [l0, l1, some (.int x), l3, l4, l5] st S V Q ↔ xX E mX2_sendersTo 83 [l0, l1, some (.int x), l3, l4, l5] (.int x :: st) S V Q := xi (show decode cX2_sendersTo 82 = .ok (.iload_n 2, 1) by decide +kernel) rfl
theorem pX2_sendersTo_83 : xX E mX2_sendersTo 83 [l0, l1, l2, l3, l4, l5] [.int x] S V Q ↔ Q (some (.int x)) S V := xi_retI (show decode cX2_sendersTo 83 = .ok (.ireturn, 1) by decide +kernel) rfl
-- TurnSlots$Machine.stateOf(I)I
theorem pX2_stateOf_0 : xX E mX2_stateOf 0 [some (.ref a), l1, l2, l3] st S V Q ↔ xX E mX2_stateOf 1 [some (.ref a), l1, l2, l3] (.ref a :: st) S V Q := xi (show decode cX2_stateOf 0 = .ok (.aload_n 0, 1) by decide +kernel) rfl
theorem pX2_stateOf_1 (h : xkd S a = 3) : xX E mX2_stateOf 1 [l0, l1, l2, l3] (.ref a :: st) S V Q ↔ xX E mX2_stateOf 4 [l0, l1, l2, l3] (va_rf (xrf S a 0) :: st) S V Q := xi_getR (show decode cX2_stateOf 1 = .ok (.getfield 11, 3) by decide +kernel) xft_2_11 rfl h
theorem pX2_stateOf_4 : xX E mX2_stateOf 4 [l0, some (.int x), l2, l3] st S V Q ↔ xX E mX2_stateOf 5 [l0, some (.int x), l2, l3] (.int x :: st) S V Q := xi (show decode cX2_stateOf 4 = .ok (.iload_n 1, 1) by decide +kernel) rfl
theorem pX2_stateOf_5 (h : xkd S a = 10 ∨ xkd S a = 11) (hi : b < xln S a) (hn : xln S a < 2147483648) : xX E mX2_stateOf 5 [l0, l1, l2, l3] (.int (nI b) :: .ref a :: st) S V Q ↔ xX E mX2_stateOf 6 [l0, l1, l2, l3] (va_rf (xrf S a b) :: st) S V Q := xi_aald (show decode cX2_stateOf 5 = .ok (.aaload, 1) by decide +kernel) h hi hn
theorem pX2_stateOf_6 (h : xnl l1 = true) : xX E mX2_stateOf 6 [l0, l1, l2, l3] (.ref a :: st) S V Q ↔ xX E mX2_stateOf 7 [l0, l1, some (.ref a), l3] st S V Q := xi_st1 (j := 1) (v := .ref a) (show decode cX2_stateOf 6 = .ok (.astore_n 2, 1) by decide +kernel) rfl h rfl rfl
theorem pX2_stateOf_7 : xX E mX2_stateOf 7 [l0, l1, some (.ref a), l3] st S V Q ↔ xX E mX2_stateOf 8 [l0, l1, some (.ref a), l3] (.ref a :: st) S V Q := xi (show decode cX2_stateOf 7 = .ok (.aload_n 2, 1) by decide +kernel) rfl
theorem pX2_stateOf_8 (h : xkd S a = 1) : xX E mX2_stateOf 8 [l0, l1, l2, l3] (.ref a :: st) S V Q ↔ xX E mX2_stateOf 11 [l0, l1, l2, l3] (.int (V a 6) :: st) S V Q := xi_getI (show decode cX2_stateOf 8 = .ok (.getfield 45, 3) by decide +kernel) xft_2_45 rfl h
theorem pX2_stateOf_11 : xX E mX2_stateOf 11 [l0, l1, some (.ref a), l3] st S V Q ↔ xX E mX2_stateOf 12 [l0, l1, some (.ref a), l3] (.ref a :: st) S V Q := xi (show decode cX2_stateOf 11 = .ok (.aload_n 2, 1) by decide +kernel) rfl
theorem pX2_stateOf_12 (h : xkd S a = 1) : xX E mX2_stateOf 12 [l0, l1, l2, l3] (.ref a :: st) S V Q ↔ xX E mX2_stateOf 15 [l0, l1, l2, l3] (.int (V a 4) :: st) S V Q := xi_getI (show decode cX2_stateOf 12 = .ok (.getfield 48, 3) by decide +kernel) xft_2_48 rfl h
theorem pX2_stateOf_15 : xX E mX2_stateOf 15 [l0, l1, l2, l3] (.int y :: .int x :: st) S V Q ↔ if x < y then xX E mX2_stateOf 20 [l0, l1, l2, l3] st S V Q else xX E mX2_stateOf 18 [l0, l1, l2, l3] st S V Q := xi_icmp (show decode cX2_stateOf 15 = .ok (.if_icmp .lt 5, 3) by decide +kernel) (by decide) xcb_lt
theorem pX2_stateOf_18 : xX E mX2_stateOf 18 [l0, l1, l2, l3] st S V Q ↔ xX E mX2_stateOf 19 [l0, l1, l2, l3] (.int (nI 0) :: st) S V Q := xi (show decode cX2_stateOf 18 = .ok (.iconst 0, 1) by decide +kernel) rfl
theorem pX2_stateOf_19 : xX E mX2_stateOf 19 [l0, l1, l2, l3] [.int x] S V Q ↔ Q (some (.int x)) S V := xi_retI (show decode cX2_stateOf 19 = .ok (.ireturn, 1) by decide +kernel) rfl
theorem pX2_stateOf_20 : xX E mX2_stateOf 20 [l0, l1, some (.ref a), l3] st S V Q ↔ xX E mX2_stateOf 21 [l0, l1, some (.ref a), l3] (.ref a :: st) S V Q := xi (show decode cX2_stateOf 20 = .ok (.aload_n 2, 1) by decide +kernel) rfl
theorem pX2_stateOf_21 (h : xkd S a = 1) : xX E mX2_stateOf 21 [l0, l1, l2, l3] (.ref a :: st) S V Q ↔ xX E mX2_stateOf 24 [l0, l1, l2, l3] (.int (V a 10) :: st) S V Q := xi_getI (show decode cX2_stateOf 21 = .ok (.getfield 51, 3) by decide +kernel) xft_2_51 rfl h
theorem pX2_stateOf_24 : xX E mX2_stateOf 24 [l0, l1, l2, l3] (.int x :: st) S V Q ↔ if x ≤ nI 0 then xX E mX2_stateOf 29 [l0, l1, l2, l3] st S V Q else xX E mX2_stateOf 27 [l0, l1, l2, l3] st S V Q := xi_if (show decode cX2_stateOf 24 = .ok (.ifCond .le 5, 3) by decide +kernel) (by decide) xcb_le
theorem pX2_stateOf_27 : xX E mX2_stateOf 27 [l0, l1, l2, l3] st S V Q ↔ xX E mX2_stateOf 28 [l0, l1, l2, l3] (.int (nI 2) :: st) S V Q := xi (show decode cX2_stateOf 27 = .ok (.iconst 2, 1) by decide +kernel) rfl
theorem pX2_stateOf_28 : xX E mX2_stateOf 28 [l0, l1, l2, l3] [.int x] S V Q ↔ Q (some (.int x)) S V := xi_retI (show decode cX2_stateOf 28 = .ok (.ireturn, 1) by decide +kernel) rfl
theorem pX2_stateOf_29 : xX E mX2_stateOf 29 [l0, l1, some (.ref a), l3] st S V Q ↔ xX E mX2_stateOf 30 [l0, l1, some (.ref a), l3] (.ref a :: st) S V Q := xi (show decode cX2_stateOf 29 = .ok (.aload_n 2, 1) by decide +kernel) rfl
theorem pX2_stateOf_30 (h : xkd S a = 1) : xX E mX2_stateOf 30 [l0, l1, l2, l3] (.ref a :: st) S V Q ↔ xX E mX2_stateOf 33 [l0, l1, l2, l3] (va_rf (xrf S a 1) :: st) S V Q := xi_getR (show decode cX2_stateOf 30 = .ok (.getfield 54, 3) by decide +kernel) xft_2_54 rfl h
theorem pX2_stateOf_33 : xX E mX2_stateOf 33 [l0, l1, some (.ref a), l3] st S V Q ↔ xX E mX2_stateOf 34 [l0, l1, some (.ref a), l3] (.ref a :: st) S V Q := xi (show decode cX2_stateOf 33 = .ok (.aload_n 2, 1) by decide +kernel) rfl
theorem pX2_stateOf_34 (h : xkd S a = 1) : xX E mX2_stateOf 34 [l0, l1, l2, l3] (.ref a :: st) S V Q ↔ xX E mX2_stateOf 37 [l0, l1, l2, l3] (.int (V a 6) :: st) S V Q := xi_getI (show decode cX2_stateOf 34 = .ok (.getfield 45, 3) by decide +kernel) xft_2_45 rfl h
theorem pX2_stateOf_37 (h : xkd S a = 7 ∨ xkd S a = 14) (hi : b < xln S a) (hn : xln S a < 2147483648) : xX E mX2_stateOf 37 [l0, l1, l2, l3] (.int (nI b) :: .ref a :: st) S V Q ↔ xX E mX2_stateOf 38 [l0, l1, l2, l3] (.int (V a b) :: st) S V Q := xi_iald (show decode cX2_stateOf 37 = .ok (.iaload, 1) by decide +kernel) h hi hn
theorem pX2_stateOf_38 (h : xnl l2 = true) : xX E mX2_stateOf 38 [l0, l1, l2, l3] (.int x :: st) S V Q ↔ xX E mX2_stateOf 39 [l0, l1, l2, some (.int x)] st S V Q := xi_st1 (j := 2) (v := .int x) (show decode cX2_stateOf 38 = .ok (.istore_n 3, 1) by decide +kernel) rfl h rfl rfl
theorem pX2_stateOf_39 : xX E mX2_stateOf 39 [l0, l1, some (.ref a), l3] st S V Q ↔ xX E mX2_stateOf 40 [l0, l1, some (.ref a), l3] (.ref a :: st) S V Q := xi (show decode cX2_stateOf 39 = .ok (.aload_n 2, 1) by decide +kernel) rfl
theorem pX2_stateOf_40 (h : xkd S a = 1) : xX E mX2_stateOf 40 [l0, l1, l2, l3] (.ref a :: st) S V Q ↔ xX E mX2_stateOf 43 [l0, l1, l2, l3] (va_rf (xrf S a 0) :: st) S V Q := xi_getR (show decode cX2_stateOf 40 = .ok (.getfield 57, 3) by decide +kernel) xft_2_57 rfl h
theorem pX2_stateOf_43 : xX E mX2_stateOf 43 [l0, l1, some (.ref a), l3] st S V Q ↔ xX E mX2_stateOf 44 [l0, l1, some (.ref a), l3] (.ref a :: st) S V Q := xi (show decode cX2_stateOf 43 = .ok (.aload_n 2, 1) by decide +kernel) rfl
theorem pX2_stateOf_44 (h : xkd S a = 1) : xX E mX2_stateOf 44 [l0, l1, l2, l3] (.ref a :: st) S V Q ↔ xX E mX2_stateOf 47 [l0, l1, l2, l3] (.int (V a 6) :: st) S V Q := xi_getI (show decode cX2_stateOf 44 = .ok (.getfield 45, 3) by decide +kernel) xft_2_45 rfl h
theorem pX2_stateOf_47 (h : xkd S a = 7 ∨ xkd S a = 14) (hi : b < xln S a) (hn : xln S a < 2147483648) : xX E mX2_stateOf 47 [l0, l1, l2, l3] (.int (nI b) :: .ref a :: st) S V Q ↔ xX E mX2_stateOf 48 [l0, l1, l2, l3] (.int (V a b) :: st) S V Q := xi_iald (show decode cX2_stateOf 47 = .ok (.iaload, 1) by decide +kernel) h hi hn
theorem pX2_stateOf_48_k1 : xX E mX2_stateOf 48 [l0, l1, l2, l3] (.int (nI 1) :: st) S V Q ↔ xX E mX2_stateOf 76 [l0, l1, l2, l3] st S V Q := xi_tab (off := 28) (show decode cX2_stateOf 48 = .ok (.tableswitch 77 1 3 #[28, 47, 60], 28) by decide +kernel) (by decide) (by decide) (by decide)
theorem pX2_stateOf_48_k2 : xX E mX2_stateOf 48 [l0, l1, l2, l3] (.int (nI 2) :: st) S V Q ↔ xX E mX2_stateOf 95 [l0, l1, l2, l3] st S V Q := xi_tab (off := 47) (show decode cX2_stateOf 48 = .ok (.tableswitch 77 1 3 #[28, 47, 60], 28) by decide +kernel) (by decide) (by decide) (by decide)
theorem pX2_stateOf_48_k3 : xX E mX2_stateOf 48 [l0, l1, l2, l3] (.int (nI 3) :: st) S V Q ↔ xX E mX2_stateOf 108 [l0, l1, l2, l3] st S V Q := xi_tab (off := 60) (show decode cX2_stateOf 48 = .ok (.tableswitch 77 1 3 #[28, 47, 60], 28) by decide +kernel) (by decide) (by decide) (by decide)
theorem pX2_stateOf_48_d (h : x.toInt < 1 ∨ 3 < x.toInt) : xX E mX2_stateOf 48 [l0, l1, l2, l3] (.int x :: st) S V Q ↔ xX E mX2_stateOf 125 [l0, l1, l2, l3] st S V Q := xi_tab (off := 77) (show decode cX2_stateOf 48 = .ok (.tableswitch 77 1 3 #[28, 47, 60], 28) by decide +kernel) (if_pos h) (by decide) (by decide)
theorem pX2_stateOf_76 : xX E mX2_stateOf 76 [some (.ref a), l1, l2, l3] st S V Q ↔ xX E mX2_stateOf 77 [some (.ref a), l1, l2, l3] (.ref a :: st) S V Q := xi (show decode cX2_stateOf 76 = .ok (.aload_n 0, 1) by decide +kernel) rfl
theorem pX2_stateOf_77 (h : xkd S a = 3) : xX E mX2_stateOf 77 [l0, l1, l2, l3] (.ref a :: st) S V Q ↔ xX E mX2_stateOf 80 [l0, l1, l2, l3] (va_rf (xrf S a 0) :: st) S V Q := xi_getR (show decode cX2_stateOf 77 = .ok (.getfield 11, 3) by decide +kernel) xft_2_11 rfl h
theorem pX2_stateOf_80 : xX E mX2_stateOf 80 [l0, l1, l2, some (.int x)] st S V Q ↔ xX E mX2_stateOf 81 [l0, l1, l2, some (.int x)] (.int x :: st) S V Q := xi (show decode cX2_stateOf 80 = .ok (.iload_n 3, 1) by decide +kernel) rfl
theorem pX2_stateOf_81 (h : xkd S a = 10 ∨ xkd S a = 11) (hi : b < xln S a) (hn : xln S a < 2147483648) : xX E mX2_stateOf 81 [l0, l1, l2, l3] (.int (nI b) :: .ref a :: st) S V Q ↔ xX E mX2_stateOf 82 [l0, l1, l2, l3] (va_rf (xrf S a b) :: st) S V Q := xi_aald (show decode cX2_stateOf 81 = .ok (.aaload, 1) by decide +kernel) h hi hn
theorem pX2_stateOf_82 (h : xkd S a = 1) : xX E mX2_stateOf 82 [l0, l1, l2, l3] (.ref a :: st) S V Q ↔ xX E mX2_stateOf 85 [l0, l1, l2, l3] (.int (V a 9) :: st) S V Q := xi_getI (show decode cX2_stateOf 82 = .ok (.getfield 60, 3) by decide +kernel) xft_2_60 rfl h
theorem pX2_stateOf_85 : xX E mX2_stateOf 85 [l0, l1, l2, l3] st S V Q ↔ xX E mX2_stateOf 86 [l0, l1, l2, l3] (.int (nI 4) :: st) S V Q := xi (show decode cX2_stateOf 85 = .ok (.iconst 4, 1) by decide +kernel) rfl
theorem pX2_stateOf_86 : xX E mX2_stateOf 86 [l0, l1, l2, l3] (.int y :: .int x :: st) S V Q ↔ if x < y then xX E mX2_stateOf 93 [l0, l1, l2, l3] st S V Q else xX E mX2_stateOf 89 [l0, l1, l2, l3] st S V Q := xi_icmp (show decode cX2_stateOf 86 = .ok (.if_icmp .lt 7, 3) by decide +kernel) (by decide) xcb_lt
theorem pX2_stateOf_89 : xX E mX2_stateOf 89 [l0, l1, l2, l3] st S V Q ↔ xX E mX2_stateOf 90 [l0, l1, l2, l3] (.int (nI 5) :: st) S V Q := xi (show decode cX2_stateOf 89 = .ok (.iconst 5, 1) by decide +kernel) rfl
theorem pX2_stateOf_90 : xX E mX2_stateOf 90 [l0, l1, l2, l3] st S V Q ↔ xX E mX2_stateOf 94 [l0, l1, l2, l3] st S V Q := xi_goto (show decode cX2_stateOf 90 = .ok (.goto 4, 3) by decide +kernel) (by decide)
theorem pX2_stateOf_93 : xX E mX2_stateOf 93 [l0, l1, l2, l3] st S V Q ↔ xX E mX2_stateOf 94 [l0, l1, l2, l3] (.int (nI 1) :: st) S V Q := xi (show decode cX2_stateOf 93 = .ok (.iconst 1, 1) by decide +kernel) rfl
theorem pX2_stateOf_94 : xX E mX2_stateOf 94 [l0, l1, l2, l3] [.int x] S V Q ↔ Q (some (.int x)) S V := xi_retI (show decode cX2_stateOf 94 = .ok (.ireturn, 1) by decide +kernel) rfl
theorem pX2_stateOf_95 : xX E mX2_stateOf 95 [l0, l1, some (.ref a), l3] st S V Q ↔ xX E mX2_stateOf 96 [l0, l1, some (.ref a), l3] (.ref a :: st) S V Q := xi (show decode cX2_stateOf 95 = .ok (.aload_n 2, 1) by decide +kernel) rfl
theorem pX2_stateOf_96 (h : xkd S a = 1) : xX E mX2_stateOf 96 [l0, l1, l2, l3] (.ref a :: st) S V Q ↔ xX E mX2_stateOf 99 [l0, l1, l2, l3] (.int (V a 9) :: st) S V Q := xi_getI (show decode cX2_stateOf 96 = .ok (.getfield 60, 3) by decide +kernel) xft_2_60 rfl h
theorem pX2_stateOf_99 : xX E mX2_stateOf 99 [l0, l1, l2, l3] (.int x :: st) S V Q ↔ if ¬ x = nI 0 then xX E mX2_stateOf 106 [l0, l1, l2, l3] st S V Q else xX E mX2_stateOf 102 [l0, l1, l2, l3] st S V Q := xi_if (show decode cX2_stateOf 99 = .ok (.ifCond .ne 7, 3) by decide +kernel) (by decide) xcb_ne
theorem pX2_stateOf_102 : xX E mX2_stateOf 102 [l0, l1, l2, l3] st S V Q ↔ xX E mX2_stateOf 103 [l0, l1, l2, l3] (.int (nI 4) :: st) S V Q := xi (show decode cX2_stateOf 102 = .ok (.iconst 4, 1) by decide +kernel) rfl
theorem pX2_stateOf_103 : xX E mX2_stateOf 103 [l0, l1, l2, l3] st S V Q ↔ xX E mX2_stateOf 107 [l0, l1, l2, l3] st S V Q := xi_goto (show decode cX2_stateOf 103 = .ok (.goto 4, 3) by decide +kernel) (by decide)
theorem pX2_stateOf_106 : xX E mX2_stateOf 106 [l0, l1, l2, l3] st S V Q ↔ xX E mX2_stateOf 107 [l0, l1, l2, l3] (.int (nI 1) :: st) S V Q := xi (show decode cX2_stateOf 106 = .ok (.iconst 1, 1) by decide +kernel) rfl
theorem pX2_stateOf_107 : xX E mX2_stateOf 107 [l0, l1, l2, l3] [.int x] S V Q ↔ Q (some (.int x)) S V := xi_retI (show decode cX2_stateOf 107 = .ok (.ireturn, 1) by decide +kernel) rfl
theorem pX2_stateOf_108 : xX E mX2_stateOf 108 [some (.ref a), l1, l2, l3] st S V Q ↔ xX E mX2_stateOf 109 [some (.ref a), l1, l2, l3] (.ref a :: st) S V Q := xi (show decode cX2_stateOf 108 = .ok (.aload_n 0, 1) by decide +kernel) rfl
theorem pX2_stateOf_109 (h : xkd S a = 3) : xX E mX2_stateOf 109 [l0, l1, l2, l3] (.ref a :: st) S V Q ↔ xX E mX2_stateOf 112 [l0, l1, l2, l3] (va_rf (xrf S a 1) :: st) S V Q := xi_getR (show decode cX2_stateOf 109 = .ok (.getfield 17, 3) by decide +kernel) xft_2_17 rfl h
theorem pX2_stateOf_112 : xX E mX2_stateOf 112 [l0, l1, l2, some (.int x)] st S V Q ↔ xX E mX2_stateOf 113 [l0, l1, l2, some (.int x)] (.int x :: st) S V Q := xi (show decode cX2_stateOf 112 = .ok (.iload_n 3, 1) by decide +kernel) rfl
theorem pX2_stateOf_113 (h : xkd S a = 7 ∨ xkd S a = 14) (hi : b < xln S a) (hn : xln S a < 2147483648) : xX E mX2_stateOf 113 [l0, l1, l2, l3] (.int (nI b) :: .ref a :: st) S V Q ↔ xX E mX2_stateOf 114 [l0, l1, l2, l3] (.int (V a b) :: st) S V Q := xi_iald (show decode cX2_stateOf 113 = .ok (.iaload, 1) by decide +kernel) h hi hn
theorem pX2_stateOf_114 : xX E mX2_stateOf 114 [l0, l1, l2, l3] st S V Q ↔ xX E mX2_stateOf 116 [l0, l1, l2, l3] (.int (-6) :: st) S V Q := xi (show decode cX2_stateOf 114 = .ok (.bipush (-6), 2) by decide +kernel) rfl
theorem pX2_stateOf_116 : xX E mX2_stateOf 116 [l0, l1, l2, l3] (.int y :: .int x :: st) S V Q ↔ if x = y then xX E mX2_stateOf 123 [l0, l1, l2, l3] st S V Q else xX E mX2_stateOf 119 [l0, l1, l2, l3] st S V Q := xi_icmp (show decode cX2_stateOf 116 = .ok (.if_icmp .eq 7, 3) by decide +kernel) (by decide) xcb_eq
theorem pX2_stateOf_119 : xX E mX2_stateOf 119 [l0, l1, l2, l3] st S V Q ↔ xX E mX2_stateOf 120 [l0, l1, l2, l3] (.int (nI 3) :: st) S V Q := xi (show decode cX2_stateOf 119 = .ok (.iconst 3, 1) by decide +kernel) rfl
theorem pX2_stateOf_120 : xX E mX2_stateOf 120 [l0, l1, l2, l3] st S V Q ↔ xX E mX2_stateOf 124 [l0, l1, l2, l3] st S V Q := xi_goto (show decode cX2_stateOf 120 = .ok (.goto 4, 3) by decide +kernel) (by decide)
theorem pX2_stateOf_123 : xX E mX2_stateOf 123 [l0, l1, l2, l3] st S V Q ↔ xX E mX2_stateOf 124 [l0, l1, l2, l3] (.int (nI 1) :: st) S V Q := xi (show decode cX2_stateOf 123 = .ok (.iconst 1, 1) by decide +kernel) rfl
theorem pX2_stateOf_124 : xX E mX2_stateOf 124 [l0, l1, l2, l3] [.int x] S V Q ↔ Q (some (.int x)) S V := xi_retI (show decode cX2_stateOf 124 = .ok (.ireturn, 1) by decide +kernel) rfl
theorem pX2_stateOf_125 : xX E mX2_stateOf 125 [l0, l1, l2, l3] st S V Q ↔ xX E mX2_stateOf 126 [l0, l1, l2, l3] (.int (nI 1) :: st) S V Q := xi (show decode cX2_stateOf 125 = .ok (.iconst 1, 1) by decide +kernel) rfl
theorem pX2_stateOf_126 : xX E mX2_stateOf 126 [l0, l1, l2, l3] [.int x] S V Q ↔ Q (some (.int x)) S V := xi_retI (show decode cX2_stateOf 126 = .ok (.ireturn, 1) by decide +kernel) rfl
-- TurnSlots$Context.<init>()V
theorem pX0_init_0 : xX E mX0_init 0 [some (.ref a)] st S V Q ↔ xX E mX0_init 1 [some (.ref a)] (.ref a :: st) S V Q := xi (show decode cX0_init 0 = .ok (.aload_n 0, 1) by decide +kernel) rfl
theorem pX0_init_1 (hc : xcat st ≤ 8) : xX E mX0_init 1 [l0] (.ref a :: st) S V Q ↔ xX E mX0_init 4 [l0] st S V Q := xi_objI (show decode cX0_init 1 = .ok (.invokespecial 3, 3) by decide +kernel) xcn_0_3 (by decide) (by decide) hc
theorem pX0_init_4 : xX E mX0_init 4 [some (.ref a)] st S V Q ↔ xX E mX0_init 5 [some (.ref a)] (.ref a :: st) S V Q := xi (show decode cX0_init 4 = .ok (.aload_n 0, 1) by decide +kernel) rfl
theorem pX0_init_5 : xX E mX0_init 5 [l0] st S V Q ↔ xX E mX0_init 7 [l0] (.int (nI 16) :: st) S V Q := xi (show decode cX0_init 5 = .ok (.bipush 16, 2) by decide +kernel) rfl
theorem pX0_init_7 (h : a ≤ 10000) : xX E mX0_init 7 [l0] (.int (nI a) :: st) S V Q ↔ xX E mX0_init 9 [l0] (.ref S.2.1 :: st) (xnew S 7 a a) (xrow V S.2.1 (fun _ => 0)) Q := xi_newarr (show decode cX0_init 7 = .ok (.newarray .int, 2) by decide +kernel) (Or.inl ⟨rfl, rfl⟩) h
theorem pX0_init_9 (h : xkd S a = 1) : xX E mX0_init 9 [l0] (.ref b :: .ref a :: st) S V Q ↔ xX E mX0_init 12 [l0] st (xsetr S a 0 (some b)) V Q := xi_putR (show decode cX0_init 9 = .ok (.putfield 9, 3) by decide +kernel) xft_0_9 (by decide) rfl rfl rfl h
theorem pX0_init_12 : xX E mX0_init 12 [some (.ref a)] st S V Q ↔ xX E mX0_init 13 [some (.ref a)] (.ref a :: st) S V Q := xi (show decode cX0_init 12 = .ok (.aload_n 0, 1) by decide +kernel) rfl
theorem pX0_init_13 : xX E mX0_init 13 [l0] st S V Q ↔ xX E mX0_init 15 [l0] (.int (nI 16) :: st) S V Q := xi (show decode cX0_init 13 = .ok (.bipush 16, 2) by decide +kernel) rfl
theorem pX0_init_15 (h : a ≤ 10000) : xX E mX0_init 15 [l0] (.int (nI a) :: st) S V Q ↔ xX E mX0_init 17 [l0] (.ref S.2.1 :: st) (xnew S 7 a a) (xrow V S.2.1 (fun _ => 0)) Q := xi_newarr (show decode cX0_init 15 = .ok (.newarray .int, 2) by decide +kernel) (Or.inl ⟨rfl, rfl⟩) h
theorem pX0_init_17 (h : xkd S a = 1) : xX E mX0_init 17 [l0] (.ref b :: .ref a :: st) S V Q ↔ xX E mX0_init 20 [l0] st (xsetr S a 1 (some b)) V Q := xi_putR (show decode cX0_init 17 = .ok (.putfield 15, 3) by decide +kernel) xft_0_15 (by decide) rfl rfl rfl h
theorem pX0_init_20 : xX E mX0_init 20 [some (.ref a)] st S V Q ↔ xX E mX0_init 21 [some (.ref a)] (.ref a :: st) S V Q := xi (show decode cX0_init 20 = .ok (.aload_n 0, 1) by decide +kernel) rfl
theorem pX0_init_21 : xX E mX0_init 21 [l0] st S V Q ↔ xX E mX0_init 22 [l0] (.int (nI 4) :: st) S V Q := xi (show decode cX0_init 21 = .ok (.iconst 4, 1) by decide +kernel) rfl
theorem pX0_init_22 (h : a ≤ 10000) : xX E mX0_init 22 [l0] (.int (nI a) :: st) S V Q ↔ xX E mX0_init 24 [l0] (.ref S.2.1 :: st) (xnew S 7 a a) (xrow V S.2.1 (fun _ => 0)) Q := xi_newarr (show decode cX0_init 22 = .ok (.newarray .int, 2) by decide +kernel) (Or.inl ⟨rfl, rfl⟩) h
theorem pX0_init_24 (h : xkd S a = 1) : xX E mX0_init 24 [l0] (.ref b :: .ref a :: st) S V Q ↔ xX E mX0_init 27 [l0] st (xsetr S a 2 (some b)) V Q := xi_putR (show decode cX0_init 24 = .ok (.putfield 18, 3) by decide +kernel) xft_0_18 (by decide) rfl rfl rfl h
theorem pX0_init_27 : xX E mX0_init 27 [some (.ref a)] st S V Q ↔ xX E mX0_init 28 [some (.ref a)] (.ref a :: st) S V Q := xi (show decode cX0_init 27 = .ok (.aload_n 0, 1) by decide +kernel) rfl
theorem pX0_init_28 : xX E mX0_init 28 [l0] st S V Q ↔ xX E mX0_init 29 [l0] (.int (nI 4) :: st) S V Q := xi (show decode cX0_init 28 = .ok (.iconst 4, 1) by decide +kernel) rfl
theorem pX0_init_29 (h : a ≤ 10000) : xX E mX0_init 29 [l0] (.int (nI a) :: st) S V Q ↔ xX E mX0_init 31 [l0] (.ref S.2.1 :: st) (xnew S 7 a a) (xrow V S.2.1 (fun _ => 0)) Q := xi_newarr (show decode cX0_init 29 = .ok (.newarray .int, 2) by decide +kernel) (Or.inl ⟨rfl, rfl⟩) h
theorem pX0_init_31 (h : xkd S a = 1) : xX E mX0_init 31 [l0] (.ref b :: .ref a :: st) S V Q ↔ xX E mX0_init 34 [l0] st (xsetr S a 3 (some b)) V Q := xi_putR (show decode cX0_init 31 = .ok (.putfield 21, 3) by decide +kernel) xft_0_21 (by decide) rfl rfl rfl h
theorem pX0_init_34 : xX E mX0_init 34 [l0] [] S V Q ↔ Q none S V := xi_retV (show decode cX0_init 34 = .ok (.return_, 1) by decide +kernel) rfl
-- TurnSlots$Context.copyFrom(LTurnSlots$Context;)V
theorem pX0_copyFrom_0 : xX E mX0_copyFrom 0 [l0, some (.ref a)] st S V Q ↔ xX E mX0_copyFrom 1 [l0, some (.ref a)] (.ref a :: st) S V Q := xi (show decode cX0_copyFrom 0 = .ok (.aload_n 1, 1) by decide +kernel) rfl
theorem pX0_copyFrom_1 (h : xkd S a = 1) : xX E mX0_copyFrom 1 [l0, l1] (.ref a :: st) S V Q ↔ xX E mX0_copyFrom 4 [l0, l1] (va_rf (xrf S a 0) :: st) S V Q := xi_getR (show decode cX0_copyFrom 1 = .ok (.getfield 9, 3) by decide +kernel) xft_0_9 rfl h
theorem pX0_copyFrom_4 : xX E mX0_copyFrom 4 [l0, l1] st S V Q ↔ xX E mX0_copyFrom 5 [l0, l1] (.int (nI 0) :: st) S V Q := xi (show decode cX0_copyFrom 4 = .ok (.iconst 0, 1) by decide +kernel) rfl
theorem pX0_copyFrom_5 : xX E mX0_copyFrom 5 [some (.ref a), l1] st S V Q ↔ xX E mX0_copyFrom 6 [some (.ref a), l1] (.ref a :: st) S V Q := xi (show decode cX0_copyFrom 5 = .ok (.aload_n 0, 1) by decide +kernel) rfl
theorem pX0_copyFrom_6 (h : xkd S a = 1) : xX E mX0_copyFrom 6 [l0, l1] (.ref a :: st) S V Q ↔ xX E mX0_copyFrom 9 [l0, l1] (va_rf (xrf S a 0) :: st) S V Q := xi_getR (show decode cX0_copyFrom 6 = .ok (.getfield 9, 3) by decide +kernel) xft_0_9 rfl h
theorem pX0_copyFrom_9 : xX E mX0_copyFrom 9 [l0, l1] st S V Q ↔ xX E mX0_copyFrom 10 [l0, l1] (.int (nI 0) :: st) S V Q := xi (show decode cX0_copyFrom 9 = .ok (.iconst 0, 1) by decide +kernel) rfl
theorem pX0_copyFrom_10 : xX E mX0_copyFrom 10 [l0, l1] st S V Q ↔ xX E mX0_copyFrom 12 [l0, l1] (.int (nI 16) :: st) S V Q := xi (show decode cX0_copyFrom 10 = .ok (.bipush 16, 2) by decide +kernel) rfl
theorem pX0_copyFrom_12 (h0 : xkd S b = 7) (h1 : xkd S a = 7) (h4 : d + c ≤ xln S b) (h5 : e + c ≤ xln S a) (b0 : xln S b < 2147483648) (b1 : xln S a < 2147483648) (hc : xcat st ≤ 8) : xX E mX0_copyFrom 12 [l0, l1] (.int (nI c) :: .int (nI e) :: .ref a :: .int (nI d) :: .ref b :: st) S V Q ↔ xX E mX0_copyFrom 15 [l0, l1] st S (xrow V a (va_cpy (V b) (V a) d e c)) Q := xi_copy (show decode cX0_copyFrom 12 = .ok (.invokestatic 24, 3) by decide +kernel) xcn_0_24 xmn_0_24 (by decide) (by decide) h0 h1 h4 h5 b0 b1 hc
theorem pX0_copyFrom_15 : xX E mX0_copyFrom 15 [l0, some (.ref a)] st S V Q ↔ xX E mX0_copyFrom 16 [l0, some (.ref a)] (.ref a :: st) S V Q := xi (show decode cX0_copyFrom 15 = .ok (.aload_n 1, 1) by decide +kernel) rfl
theorem pX0_copyFrom_16 (h : xkd S a = 1) : xX E mX0_copyFrom 16 [l0, l1] (.ref a :: st) S V Q ↔ xX E mX0_copyFrom 19 [l0, l1] (va_rf (xrf S a 1) :: st) S V Q := xi_getR (show decode cX0_copyFrom 16 = .ok (.getfield 15, 3) by decide +kernel) xft_0_15 rfl h
theorem pX0_copyFrom_19 : xX E mX0_copyFrom 19 [l0, l1] st S V Q ↔ xX E mX0_copyFrom 20 [l0, l1] (.int (nI 0) :: st) S V Q := xi (show decode cX0_copyFrom 19 = .ok (.iconst 0, 1) by decide +kernel) rfl
theorem pX0_copyFrom_20 : xX E mX0_copyFrom 20 [some (.ref a), l1] st S V Q ↔ xX E mX0_copyFrom 21 [some (.ref a), l1] (.ref a :: st) S V Q := xi (show decode cX0_copyFrom 20 = .ok (.aload_n 0, 1) by decide +kernel) rfl
theorem pX0_copyFrom_21 (h : xkd S a = 1) : xX E mX0_copyFrom 21 [l0, l1] (.ref a :: st) S V Q ↔ xX E mX0_copyFrom 24 [l0, l1] (va_rf (xrf S a 1) :: st) S V Q := xi_getR (show decode cX0_copyFrom 21 = .ok (.getfield 15, 3) by decide +kernel) xft_0_15 rfl h
theorem pX0_copyFrom_24 : xX E mX0_copyFrom 24 [l0, l1] st S V Q ↔ xX E mX0_copyFrom 25 [l0, l1] (.int (nI 0) :: st) S V Q := xi (show decode cX0_copyFrom 24 = .ok (.iconst 0, 1) by decide +kernel) rfl
theorem pX0_copyFrom_25 : xX E mX0_copyFrom 25 [l0, l1] st S V Q ↔ xX E mX0_copyFrom 27 [l0, l1] (.int (nI 16) :: st) S V Q := xi (show decode cX0_copyFrom 25 = .ok (.bipush 16, 2) by decide +kernel) rfl
theorem pX0_copyFrom_27 (h0 : xkd S b = 7) (h1 : xkd S a = 7) (h4 : d + c ≤ xln S b) (h5 : e + c ≤ xln S a) (b0 : xln S b < 2147483648) (b1 : xln S a < 2147483648) (hc : xcat st ≤ 8) : xX E mX0_copyFrom 27 [l0, l1] (.int (nI c) :: .int (nI e) :: .ref a :: .int (nI d) :: .ref b :: st) S V Q ↔ xX E mX0_copyFrom 30 [l0, l1] st S (xrow V a (va_cpy (V b) (V a) d e c)) Q := xi_copy (show decode cX0_copyFrom 27 = .ok (.invokestatic 24, 3) by decide +kernel) xcn_0_24 xmn_0_24 (by decide) (by decide) h0 h1 h4 h5 b0 b1 hc
theorem pX0_copyFrom_30 : xX E mX0_copyFrom 30 [l0, some (.ref a)] st S V Q ↔ xX E mX0_copyFrom 31 [l0, some (.ref a)] (.ref a :: st) S V Q := xi (show decode cX0_copyFrom 30 = .ok (.aload_n 1, 1) by decide +kernel) rfl
theorem pX0_copyFrom_31 (h : xkd S a = 1) : xX E mX0_copyFrom 31 [l0, l1] (.ref a :: st) S V Q ↔ xX E mX0_copyFrom 34 [l0, l1] (va_rf (xrf S a 2) :: st) S V Q := xi_getR (show decode cX0_copyFrom 31 = .ok (.getfield 18, 3) by decide +kernel) xft_0_18 rfl h
theorem pX0_copyFrom_34 : xX E mX0_copyFrom 34 [l0, l1] st S V Q ↔ xX E mX0_copyFrom 35 [l0, l1] (.int (nI 0) :: st) S V Q := xi (show decode cX0_copyFrom 34 = .ok (.iconst 0, 1) by decide +kernel) rfl
theorem pX0_copyFrom_35 : xX E mX0_copyFrom 35 [some (.ref a), l1] st S V Q ↔ xX E mX0_copyFrom 36 [some (.ref a), l1] (.ref a :: st) S V Q := xi (show decode cX0_copyFrom 35 = .ok (.aload_n 0, 1) by decide +kernel) rfl
theorem pX0_copyFrom_36 (h : xkd S a = 1) : xX E mX0_copyFrom 36 [l0, l1] (.ref a :: st) S V Q ↔ xX E mX0_copyFrom 39 [l0, l1] (va_rf (xrf S a 2) :: st) S V Q := xi_getR (show decode cX0_copyFrom 36 = .ok (.getfield 18, 3) by decide +kernel) xft_0_18 rfl h
theorem pX0_copyFrom_39 : xX E mX0_copyFrom 39 [l0, l1] st S V Q ↔ xX E mX0_copyFrom 40 [l0, l1] (.int (nI 0) :: st) S V Q := xi (show decode cX0_copyFrom 39 = .ok (.iconst 0, 1) by decide +kernel) rfl
theorem pX0_copyFrom_40 : xX E mX0_copyFrom 40 [l0, l1] st S V Q ↔ xX E mX0_copyFrom 41 [l0, l1] (.int (nI 4) :: st) S V Q := xi (show decode cX0_copyFrom 40 = .ok (.iconst 4, 1) by decide +kernel) rfl
theorem pX0_copyFrom_41 (h0 : xkd S b = 7) (h1 : xkd S a = 7) (h4 : d + c ≤ xln S b) (h5 : e + c ≤ xln S a) (b0 : xln S b < 2147483648) (b1 : xln S a < 2147483648) (hc : xcat st ≤ 8) : xX E mX0_copyFrom 41 [l0, l1] (.int (nI c) :: .int (nI e) :: .ref a :: .int (nI d) :: .ref b :: st) S V Q ↔ xX E mX0_copyFrom 44 [l0, l1] st S (xrow V a (va_cpy (V b) (V a) d e c)) Q := xi_copy (show decode cX0_copyFrom 41 = .ok (.invokestatic 24, 3) by decide +kernel) xcn_0_24 xmn_0_24 (by decide) (by decide) h0 h1 h4 h5 b0 b1 hc
theorem pX0_copyFrom_44 : xX E mX0_copyFrom 44 [l0, some (.ref a)] st S V Q ↔ xX E mX0_copyFrom 45 [l0, some (.ref a)] (.ref a :: st) S V Q := xi (show decode cX0_copyFrom 44 = .ok (.aload_n 1, 1) by decide +kernel) rfl
theorem pX0_copyFrom_45 (h : xkd S a = 1) : xX E mX0_copyFrom 45 [l0, l1] (.ref a :: st) S V Q ↔ xX E mX0_copyFrom 48 [l0, l1] (va_rf (xrf S a 3) :: st) S V Q := xi_getR (show decode cX0_copyFrom 45 = .ok (.getfield 21, 3) by decide +kernel) xft_0_21 rfl h
theorem pX0_copyFrom_48 : xX E mX0_copyFrom 48 [l0, l1] st S V Q ↔ xX E mX0_copyFrom 49 [l0, l1] (.int (nI 0) :: st) S V Q := xi (show decode cX0_copyFrom 48 = .ok (.iconst 0, 1) by decide +kernel) rfl
theorem pX0_copyFrom_49 : xX E mX0_copyFrom 49 [some (.ref a), l1] st S V Q ↔ xX E mX0_copyFrom 50 [some (.ref a), l1] (.ref a :: st) S V Q := xi (show decode cX0_copyFrom 49 = .ok (.aload_n 0, 1) by decide +kernel) rfl
theorem pX0_copyFrom_50 (h : xkd S a = 1) : xX E mX0_copyFrom 50 [l0, l1] (.ref a :: st) S V Q ↔ xX E mX0_copyFrom 53 [l0, l1] (va_rf (xrf S a 3) :: st) S V Q := xi_getR (show decode cX0_copyFrom 50 = .ok (.getfield 21, 3) by decide +kernel) xft_0_21 rfl h
theorem pX0_copyFrom_53 : xX E mX0_copyFrom 53 [l0, l1] st S V Q ↔ xX E mX0_copyFrom 54 [l0, l1] (.int (nI 0) :: st) S V Q := xi (show decode cX0_copyFrom 53 = .ok (.iconst 0, 1) by decide +kernel) rfl
theorem pX0_copyFrom_54 : xX E mX0_copyFrom 54 [l0, l1] st S V Q ↔ xX E mX0_copyFrom 55 [l0, l1] (.int (nI 4) :: st) S V Q := xi (show decode cX0_copyFrom 54 = .ok (.iconst 4, 1) by decide +kernel) rfl
theorem pX0_copyFrom_55 (h0 : xkd S b = 7) (h1 : xkd S a = 7) (h4 : d + c ≤ xln S b) (h5 : e + c ≤ xln S a) (b0 : xln S b < 2147483648) (b1 : xln S a < 2147483648) (hc : xcat st ≤ 8) : xX E mX0_copyFrom 55 [l0, l1] (.int (nI c) :: .int (nI e) :: .ref a :: .int (nI d) :: .ref b :: st) S V Q ↔ xX E mX0_copyFrom 58 [l0, l1] st S (xrow V a (va_cpy (V b) (V a) d e c)) Q := xi_copy (show decode cX0_copyFrom 55 = .ok (.invokestatic 24, 3) by decide +kernel) xcn_0_24 xmn_0_24 (by decide) (by decide) h0 h1 h4 h5 b0 b1 hc
theorem pX0_copyFrom_58 : xX E mX0_copyFrom 58 [some (.ref a), l1] st S V Q ↔ xX E mX0_copyFrom 59 [some (.ref a), l1] (.ref a :: st) S V Q := xi (show decode cX0_copyFrom 58 = .ok (.aload_n 0, 1) by decide +kernel) rfl
theorem pX0_copyFrom_59 : xX E mX0_copyFrom 59 [l0, some (.ref a)] st S V Q ↔ xX E mX0_copyFrom 60 [l0, some (.ref a)] (.ref a :: st) S V Q := xi (show decode cX0_copyFrom 59 = .ok (.aload_n 1, 1) by decide +kernel) rfl
theorem pX0_copyFrom_60 (h : xkd S a = 1) : xX E mX0_copyFrom 60 [l0, l1] (.ref a :: st) S V Q ↔ xX E mX0_copyFrom 63 [l0, l1] (.int (V a 4) :: st) S V Q := xi_getI (show decode cX0_copyFrom 60 = .ok (.getfield 30, 3) by decide +kernel) xft_0_30 rfl h
theorem pX0_copyFrom_63 (h : xkd S a = 1) : xX E mX0_copyFrom 63 [l0, l1] (.int x :: .ref a :: st) S V Q ↔ xX E mX0_copyFrom 66 [l0, l1] st S (xup V a 4 x) Q := xi_putI (show decode cX0_copyFrom 63 = .ok (.putfield 30, 3) by decide +kernel) xft_0_30 (by decide) rfl rfl h
theorem pX0_copyFrom_66 : xX E mX0_copyFrom 66 [some (.ref a), l1] st S V Q ↔ xX E mX0_copyFrom 67 [some (.ref a), l1] (.ref a :: st) S V Q := xi (show decode cX0_copyFrom 66 = .ok (.aload_n 0, 1) by decide +kernel) rfl
theorem pX0_copyFrom_67 : xX E mX0_copyFrom 67 [l0, some (.ref a)] st S V Q ↔ xX E mX0_copyFrom 68 [l0, some (.ref a)] (.ref a :: st) S V Q := xi (show decode cX0_copyFrom 67 = .ok (.aload_n 1, 1) by decide +kernel) rfl
theorem pX0_copyFrom_68 (h : xkd S a = 1) : xX E mX0_copyFrom 68 [l0, l1] (.ref a :: st) S V Q ↔ xX E mX0_copyFrom 71 [l0, l1] (.int (V a 5) :: st) S V Q := xi_getI (show decode cX0_copyFrom 68 = .ok (.getfield 34, 3) by decide +kernel) xft_0_34 rfl h
theorem pX0_copyFrom_71 (h : xkd S a = 1) : xX E mX0_copyFrom 71 [l0, l1] (.int x :: .ref a :: st) S V Q ↔ xX E mX0_copyFrom 74 [l0, l1] st S (xup V a 5 x) Q := xi_putI (show decode cX0_copyFrom 71 = .ok (.putfield 34, 3) by decide +kernel) xft_0_34 (by decide) rfl rfl h
theorem pX0_copyFrom_74 : xX E mX0_copyFrom 74 [some (.ref a), l1] st S V Q ↔ xX E mX0_copyFrom 75 [some (.ref a), l1] (.ref a :: st) S V Q := xi (show decode cX0_copyFrom 74 = .ok (.aload_n 0, 1) by decide +kernel) rfl
theorem pX0_copyFrom_75 : xX E mX0_copyFrom 75 [l0, some (.ref a)] st S V Q ↔ xX E mX0_copyFrom 76 [l0, some (.ref a)] (.ref a :: st) S V Q := xi (show decode cX0_copyFrom 75 = .ok (.aload_n 1, 1) by decide +kernel) rfl
theorem pX0_copyFrom_76 (h : xkd S a = 1) : xX E mX0_copyFrom 76 [l0, l1] (.ref a :: st) S V Q ↔ xX E mX0_copyFrom 79 [l0, l1] (.int (V a 6) :: st) S V Q := xi_getI (show decode cX0_copyFrom 76 = .ok (.getfield 37, 3) by decide +kernel) xft_0_37 rfl h
theorem pX0_copyFrom_79 (h : xkd S a = 1) : xX E mX0_copyFrom 79 [l0, l1] (.int x :: .ref a :: st) S V Q ↔ xX E mX0_copyFrom 82 [l0, l1] st S (xup V a 6 x) Q := xi_putI (show decode cX0_copyFrom 79 = .ok (.putfield 37, 3) by decide +kernel) xft_0_37 (by decide) rfl rfl h
theorem pX0_copyFrom_82 : xX E mX0_copyFrom 82 [some (.ref a), l1] st S V Q ↔ xX E mX0_copyFrom 83 [some (.ref a), l1] (.ref a :: st) S V Q := xi (show decode cX0_copyFrom 82 = .ok (.aload_n 0, 1) by decide +kernel) rfl
theorem pX0_copyFrom_83 : xX E mX0_copyFrom 83 [l0, some (.ref a)] st S V Q ↔ xX E mX0_copyFrom 84 [l0, some (.ref a)] (.ref a :: st) S V Q := xi (show decode cX0_copyFrom 83 = .ok (.aload_n 1, 1) by decide +kernel) rfl
theorem pX0_copyFrom_84 (h : xkd S a = 1) : xX E mX0_copyFrom 84 [l0, l1] (.ref a :: st) S V Q ↔ xX E mX0_copyFrom 87 [l0, l1] (.int (V a 7) :: st) S V Q := xi_getI (show decode cX0_copyFrom 84 = .ok (.getfield 40, 3) by decide +kernel) xft_0_40 rfl h
theorem pX0_copyFrom_87 (h : xkd S a = 1) : xX E mX0_copyFrom 87 [l0, l1] (.int x :: .ref a :: st) S V Q ↔ xX E mX0_copyFrom 90 [l0, l1] st S (xup V a 7 x) Q := xi_putI (show decode cX0_copyFrom 87 = .ok (.putfield 40, 3) by decide +kernel) xft_0_40 (by decide) rfl rfl h
theorem pX0_copyFrom_90 : xX E mX0_copyFrom 90 [some (.ref a), l1] st S V Q ↔ xX E mX0_copyFrom 91 [some (.ref a), l1] (.ref a :: st) S V Q := xi (show decode cX0_copyFrom 90 = .ok (.aload_n 0, 1) by decide +kernel) rfl
theorem pX0_copyFrom_91 : xX E mX0_copyFrom 91 [l0, some (.ref a)] st S V Q ↔ xX E mX0_copyFrom 92 [l0, some (.ref a)] (.ref a :: st) S V Q := xi (show decode cX0_copyFrom 91 = .ok (.aload_n 1, 1) by decide +kernel) rfl
theorem pX0_copyFrom_92 (h : xkd S a = 1) : xX E mX0_copyFrom 92 [l0, l1] (.ref a :: st) S V Q ↔ xX E mX0_copyFrom 95 [l0, l1] (.int (V a 8) :: st) S V Q := xi_getI (show decode cX0_copyFrom 92 = .ok (.getfield 43, 3) by decide +kernel) xft_0_43 rfl h
theorem pX0_copyFrom_95 (h : xkd S a = 1) : xX E mX0_copyFrom 95 [l0, l1] (.int x :: .ref a :: st) S V Q ↔ xX E mX0_copyFrom 98 [l0, l1] st S (xup V a 8 x) Q := xi_putI (show decode cX0_copyFrom 95 = .ok (.putfield 43, 3) by decide +kernel) xft_0_43 (by decide) rfl rfl h
theorem pX0_copyFrom_98 : xX E mX0_copyFrom 98 [some (.ref a), l1] st S V Q ↔ xX E mX0_copyFrom 99 [some (.ref a), l1] (.ref a :: st) S V Q := xi (show decode cX0_copyFrom 98 = .ok (.aload_n 0, 1) by decide +kernel) rfl
theorem pX0_copyFrom_99 : xX E mX0_copyFrom 99 [l0, some (.ref a)] st S V Q ↔ xX E mX0_copyFrom 100 [l0, some (.ref a)] (.ref a :: st) S V Q := xi (show decode cX0_copyFrom 99 = .ok (.aload_n 1, 1) by decide +kernel) rfl
theorem pX0_copyFrom_100 (h : xkd S a = 1) : xX E mX0_copyFrom 100 [l0, l1] (.ref a :: st) S V Q ↔ xX E mX0_copyFrom 103 [l0, l1] (.int (V a 9) :: st) S V Q := xi_getI (show decode cX0_copyFrom 100 = .ok (.getfield 46, 3) by decide +kernel) xft_0_46 rfl h
theorem pX0_copyFrom_103 (h : xkd S a = 1) : xX E mX0_copyFrom 103 [l0, l1] (.int x :: .ref a :: st) S V Q ↔ xX E mX0_copyFrom 106 [l0, l1] st S (xup V a 9 x) Q := xi_putI (show decode cX0_copyFrom 103 = .ok (.putfield 46, 3) by decide +kernel) xft_0_46 (by decide) rfl rfl h
theorem pX0_copyFrom_106 : xX E mX0_copyFrom 106 [some (.ref a), l1] st S V Q ↔ xX E mX0_copyFrom 107 [some (.ref a), l1] (.ref a :: st) S V Q := xi (show decode cX0_copyFrom 106 = .ok (.aload_n 0, 1) by decide +kernel) rfl
theorem pX0_copyFrom_107 : xX E mX0_copyFrom 107 [l0, some (.ref a)] st S V Q ↔ xX E mX0_copyFrom 108 [l0, some (.ref a)] (.ref a :: st) S V Q := xi (show decode cX0_copyFrom 107 = .ok (.aload_n 1, 1) by decide +kernel) rfl
theorem pX0_copyFrom_108 (h : xkd S a = 1) : xX E mX0_copyFrom 108 [l0, l1] (.ref a :: st) S V Q ↔ xX E mX0_copyFrom 111 [l0, l1] (.int (V a 10) :: st) S V Q := xi_getI (show decode cX0_copyFrom 108 = .ok (.getfield 49, 3) by decide +kernel) xft_0_49 rfl h
theorem pX0_copyFrom_111 (h : xkd S a = 1) : xX E mX0_copyFrom 111 [l0, l1] (.int x :: .ref a :: st) S V Q ↔ xX E mX0_copyFrom 114 [l0, l1] st S (xup V a 10 x) Q := xi_putI (show decode cX0_copyFrom 111 = .ok (.putfield 49, 3) by decide +kernel) xft_0_49 (by decide) rfl rfl h
theorem pX0_copyFrom_114 : xX E mX0_copyFrom 114 [l0, l1] [] S V Q ↔ Q none S V := xi_retV (show decode cX0_copyFrom 114 = .ok (.return_, 1) by decide +kernel) rfl
-- TurnSlots$Context.goBack(I)V
theorem pX0_goBack_0 : xX E mX0_goBack 0 [some (.ref a), l1, l2] st S V Q ↔ xX E mX0_goBack 1 [some (.ref a), l1, l2] (.ref a :: st) S V Q := xi (show decode cX0_goBack 0 = .ok (.aload_n 0, 1) by decide +kernel) rfl
theorem pX0_goBack_1 (h : xkd S a = 1) : xX E mX0_goBack 1 [l0, l1, l2] (.ref a :: st) S V Q ↔ xX E mX0_goBack 4 [l0, l1, l2] (.int (V a 5) :: st) S V Q := xi_getI (show decode cX0_goBack 1 = .ok (.getfield 34, 3) by decide +kernel) xft_0_34 rfl h
theorem pX0_goBack_4 : xX E mX0_goBack 4 [some (.ref a), l1, l2] st S V Q ↔ xX E mX0_goBack 5 [some (.ref a), l1, l2] (.ref a :: st) S V Q := xi (show decode cX0_goBack 4 = .ok (.aload_n 0, 1) by decide +kernel) rfl
theorem pX0_goBack_5 (h : xkd S a = 1) : xX E mX0_goBack 5 [l0, l1, l2] (.ref a :: st) S V Q ↔ xX E mX0_goBack 8 [l0, l1, l2] (.int (V a 6) :: st) S V Q := xi_getI (show decode cX0_goBack 5 = .ok (.getfield 37, 3) by decide +kernel) xft_0_37 rfl h
theorem pX0_goBack_8 {x0 : Int32} {x1 : Int32} (hc : xcat st ≤ 8) : xX E mX0_goBack 8 [l0, l1, l2] (.int x1 :: .int x0 :: st) S V Q ↔ xC E mX4_has [.int x0, .int x1] S V (fun v S V => xX E mX0_goBack 11 [l0, l1, l2] (v.toList ++ st) S V Q) := xi_callS (as := [.int x0, .int x1]) (show decode cX0_goBack 8 = .ok (.invokestatic 65, 3) by decide +kernel) xct_0_65 (by decide) rfl rfl (by decide) (Nat.le_of_ble_eq_true rfl) hc
theorem pX0_goBack_11 (h : xnl l1 = true) : xX E mX0_goBack 11 [l0, l1, l2] (.int x :: st) S V Q ↔ xX E mX0_goBack 12 [l0, l1, some (.int x)] st S V Q := xi_st1 (j := 1) (v := .int x) (show decode cX0_goBack 11 = .ok (.istore_n 2, 1) by decide +kernel) rfl h rfl rfl
theorem pX0_goBack_12 : xX E mX0_goBack 12 [some (.ref a), l1, l2] st S V Q ↔ xX E mX0_goBack 13 [some (.ref a), l1, l2] (.ref a :: st) S V Q := xi (show decode cX0_goBack 12 = .ok (.aload_n 0, 1) by decide +kernel) rfl
theorem pX0_goBack_13 : xX E mX0_goBack 13 [l0, l1, l2] (.ref a :: st) S V Q ↔ xX E mX0_goBack 14 [l0, l1, l2] (.ref a :: .ref a :: st) S V Q := xi (show decode cX0_goBack 13 = .ok (.dup, 1) by decide +kernel) rfl
theorem pX0_goBack_13i : xX E mX0_goBack 13 [l0, l1, l2] (.int x :: st) S V Q ↔ xX E mX0_goBack 14 [l0, l1, l2] (.int x :: .int x :: st) S V Q := xi (show decode cX0_goBack 13 = .ok (.dup, 1) by decide +kernel) rfl
theorem pX0_goBack_14 (h : xkd S a = 1) : xX E mX0_goBack 14 [l0, l1, l2] (.ref a :: st) S V Q ↔ xX E mX0_goBack 17 [l0, l1, l2] (.int (V a 5) :: st) S V Q := xi_getI (show decode cX0_goBack 14 = .ok (.getfield 34, 3) by decide +kernel) xft_0_34 rfl h
theorem pX0_goBack_17 : xX E mX0_goBack 17 [l0, l1, l2] st S V Q ↔ xX E mX0_goBack 18 [l0, l1, l2] (.int (nI 1) :: st) S V Q := xi (show decode cX0_goBack 17 = .ok (.iconst 1, 1) by decide +kernel) rfl
theorem pX0_goBack_18 : xX E mX0_goBack 18 [some (.ref a), l1, l2] st S V Q ↔ xX E mX0_goBack 19 [some (.ref a), l1, l2] (.ref a :: st) S V Q := xi (show decode cX0_goBack 18 = .ok (.aload_n 0, 1) by decide +kernel) rfl
theorem pX0_goBack_19 (h : xkd S a = 1) : xX E mX0_goBack 19 [l0, l1, l2] (.ref a :: st) S V Q ↔ xX E mX0_goBack 22 [l0, l1, l2] (.int (V a 6) :: st) S V Q := xi_getI (show decode cX0_goBack 19 = .ok (.getfield 37, 3) by decide +kernel) xft_0_37 rfl h
theorem pX0_goBack_22 : xX E mX0_goBack 22 [l0, l1, l2] (.int y :: .int x :: st) S V Q ↔ xX E mX0_goBack 23 [l0, l1, l2] (.int (x <<< (y &&& 31)) :: st) S V Q := xi (show decode cX0_goBack 22 = .ok (.ishl, 1) by decide +kernel) rfl
theorem pX0_goBack_23 : xX E mX0_goBack 23 [l0, l1, l2] (.int y :: .int x :: st) S V Q ↔ xX E mX0_goBack 24 [l0, l1, l2] (.int (x ^^^ y) :: st) S V Q := xi (show decode cX0_goBack 23 = .ok (.ixor, 1) by decide +kernel) rfl
theorem pX0_goBack_24 (h : xkd S a = 1) : xX E mX0_goBack 24 [l0, l1, l2] (.int x :: .ref a :: st) S V Q ↔ xX E mX0_goBack 27 [l0, l1, l2] st S (xup V a 5 x) Q := xi_putI (show decode cX0_goBack 24 = .ok (.putfield 34, 3) by decide +kernel) xft_0_34 (by decide) rfl rfl h
theorem pX0_goBack_27 : xX E mX0_goBack 27 [some (.ref a), l1, l2] st S V Q ↔ xX E mX0_goBack 28 [some (.ref a), l1, l2] (.ref a :: st) S V Q := xi (show decode cX0_goBack 27 = .ok (.aload_n 0, 1) by decide +kernel) rfl
theorem pX0_goBack_28 : xX E mX0_goBack 28 [l0, l1, some (.int x)] st S V Q ↔ xX E mX0_goBack 29 [l0, l1, some (.int x)] (.int x :: st) S V Q := xi (show decode cX0_goBack 28 = .ok (.iload_n 2, 1) by decide +kernel) rfl
theorem pX0_goBack_29 : xX E mX0_goBack 29 [l0, l1, l2] (.int x :: st) S V Q ↔ if x = nI 0 then xX E mX0_goBack 41 [l0, l1, l2] st S V Q else xX E mX0_goBack 32 [l0, l1, l2] st S V Q := xi_if (show decode cX0_goBack 29 = .ok (.ifCond .eq 12, 3) by decide +kernel) (by decide) xcb_eq
theorem pX0_goBack_32 : xX E mX0_goBack 32 [some (.ref a), l1, l2] st S V Q ↔ xX E mX0_goBack 33 [some (.ref a), l1, l2] (.ref a :: st) S V Q := xi (show decode cX0_goBack 32 = .ok (.aload_n 0, 1) by decide +kernel) rfl
theorem pX0_goBack_33 (h : xkd S a = 1) : xX E mX0_goBack 33 [l0, l1, l2] (.ref a :: st) S V Q ↔ xX E mX0_goBack 36 [l0, l1, l2] (.int (V a 6) :: st) S V Q := xi_getI (show decode cX0_goBack 33 = .ok (.getfield 37, 3) by decide +kernel) xft_0_37 rfl h
theorem pX0_goBack_36 : xX E mX0_goBack 36 [l0, l1, l2] st S V Q ↔ xX E mX0_goBack 37 [l0, l1, l2] (.int (nI 1) :: st) S V Q := xi (show decode cX0_goBack 36 = .ok (.iconst 1, 1) by decide +kernel) rfl
theorem pX0_goBack_37 : xX E mX0_goBack 37 [l0, l1, l2] (.int y :: .int x :: st) S V Q ↔ xX E mX0_goBack 38 [l0, l1, l2] (.int (x + y) :: st) S V Q := xi (show decode cX0_goBack 37 = .ok (.iadd, 1) by decide +kernel) rfl
theorem pX0_goBack_38 : xX E mX0_goBack 38 [l0, l1, l2] st S V Q ↔ xX E mX0_goBack 51 [l0, l1, l2] st S V Q := xi_goto (show decode cX0_goBack 38 = .ok (.goto 13, 3) by decide +kernel) (by decide)
theorem pX0_goBack_41 : xX E mX0_goBack 41 [l0, l1, l2] st S V Q ↔ xX E mX0_goBack 42 [l0, l1, l2] (.int (nI 0) :: st) S V Q := xi (show decode cX0_goBack 41 = .ok (.iconst 0, 1) by decide +kernel) rfl
theorem pX0_goBack_42 : xX E mX0_goBack 42 [some (.ref a), l1, l2] st S V Q ↔ xX E mX0_goBack 43 [some (.ref a), l1, l2] (.ref a :: st) S V Q := xi (show decode cX0_goBack 42 = .ok (.aload_n 0, 1) by decide +kernel) rfl
theorem pX0_goBack_43 (h : xkd S a = 1) : xX E mX0_goBack 43 [l0, l1, l2] (.ref a :: st) S V Q ↔ xX E mX0_goBack 46 [l0, l1, l2] (.int (V a 6) :: st) S V Q := xi_getI (show decode cX0_goBack 43 = .ok (.getfield 37, 3) by decide +kernel) xft_0_37 rfl h
theorem pX0_goBack_46 : xX E mX0_goBack 46 [l0, some (.int x), l2] st S V Q ↔ xX E mX0_goBack 47 [l0, some (.int x), l2] (.int x :: st) S V Q := xi (show decode cX0_goBack 46 = .ok (.iload_n 1, 1) by decide +kernel) rfl
theorem pX0_goBack_47 : xX E mX0_goBack 47 [l0, l1, l2] (.int y :: .int x :: st) S V Q ↔ xX E mX0_goBack 48 [l0, l1, l2] (.int (x - y) :: st) S V Q := xi (show decode cX0_goBack 47 = .ok (.isub, 1) by decide +kernel) rfl
theorem pX0_goBack_48 (hc : xcat st ≤ 8) : xX E mX0_goBack 48 [l0, l1, l2] (.int y :: .int x :: st) S V Q ↔ xX E mX0_goBack 51 [l0, l1, l2] (.int (if x < y then y else x) :: st) S V Q := xi_max (show decode cX0_goBack 48 = .ok (.invokestatic 69, 3) by decide +kernel) xcn_0_69 xmt_0_69 (by decide) hc
theorem pX0_goBack_51 (h : xkd S a = 1) : xX E mX0_goBack 51 [l0, l1, l2] (.int x :: .ref a :: st) S V Q ↔ xX E mX0_goBack 54 [l0, l1, l2] st S (xup V a 6 x) Q := xi_putI (show decode cX0_goBack 51 = .ok (.putfield 37, 3) by decide +kernel) xft_0_37 (by decide) rfl rfl h
theorem pX0_goBack_54 : xX E mX0_goBack 54 [l0, l1, l2] [] S V Q ↔ Q none S V := xi_retV (show decode cX0_goBack 54 = .ok (.return_, 1) by decide +kernel) rfl
-- TurnSlots$Context.takeMessage()V
theorem pX0_takeMessage_0 : xX E mX0_takeMessage 0 [some (.ref a)] st S V Q ↔ xX E mX0_takeMessage 1 [some (.ref a)] (.ref a :: st) S V Q := xi (show decode cX0_takeMessage 0 = .ok (.aload_n 0, 1) by decide +kernel) rfl
theorem pX0_takeMessage_1 (h : xkd S a = 1) : xX E mX0_takeMessage 1 [l0] (.ref a :: st) S V Q ↔ xX E mX0_takeMessage 4 [l0] (.int (V a 9) :: st) S V Q := xi_getI (show decode cX0_takeMessage 1 = .ok (.getfield 46, 3) by decide +kernel) xft_0_46 rfl h
theorem pX0_takeMessage_4 : xX E mX0_takeMessage 4 [l0] (.int x :: st) S V Q ↔ if x ≤ nI 0 then xX E mX0_takeMessage 41 [l0] st S V Q else xX E mX0_takeMessage 7 [l0] st S V Q := xi_if (show decode cX0_takeMessage 4 = .ok (.ifCond .le 37, 3) by decide +kernel) (by decide) xcb_le
theorem pX0_takeMessage_7 : xX E mX0_takeMessage 7 [some (.ref a)] st S V Q ↔ xX E mX0_takeMessage 8 [some (.ref a)] (.ref a :: st) S V Q := xi (show decode cX0_takeMessage 7 = .ok (.aload_n 0, 1) by decide +kernel) rfl
theorem pX0_takeMessage_8 : xX E mX0_takeMessage 8 [some (.ref a)] st S V Q ↔ xX E mX0_takeMessage 9 [some (.ref a)] (.ref a :: st) S V Q := xi (show decode cX0_takeMessage 8 = .ok (.aload_n 0, 1) by decide +kernel) rfl
theorem pX0_takeMessage_9 (h : xkd S a = 1) : xX E mX0_takeMessage 9 [l0] (.ref a :: st) S V Q ↔ xX E mX0_takeMessage 12 [l0] (va_rf (xrf S a 2) :: st) S V Q := xi_getR (show decode cX0_takeMessage 9 = .ok (.getfield 18, 3) by decide +kernel) xft_0_18 rfl h
theorem pX0_takeMessage_12 : xX E mX0_takeMessage 12 [l0] st S V Q ↔ xX E mX0_takeMessage 13 [l0] (.int (nI 0) :: st) S V Q := xi (show decode cX0_takeMessage 12 = .ok (.iconst 0, 1) by decide +kernel) rfl
theorem pX0_takeMessage_13 (h : xkd S a = 7 ∨ xkd S a = 14) (hi : b < xln S a) (hn : xln S a < 2147483648) : xX E mX0_takeMessage 13 [l0] (.int (nI b) :: .ref a :: st) S V Q ↔ xX E mX0_takeMessage 14 [l0] (.int (V a b) :: st) S V Q := xi_iald (show decode cX0_takeMessage 13 = .ok (.iaload, 1) by decide +kernel) h hi hn
theorem pX0_takeMessage_14 {x0 : Int32} (h : xkd S a = 1) (hc : xcat st ≤ 8) : xX E mX0_takeMessage 14 [l0] (.int x0 :: .ref a :: st) S V Q ↔ xC E mX0_addToSum [.ref a, .int x0] S V (fun v S V => xX E mX0_takeMessage 17 [l0] (v.toList ++ st) S V Q) := xi_callV (as := [.int x0]) (show decode cX0_takeMessage 14 = .ok (.invokevirtual 61, 3) by decide +kernel) xct_0_61 rfl rfl (by decide) (Nat.le_of_ble_eq_true rfl) rfl h hc
theorem pX0_takeMessage_17 : xX E mX0_takeMessage 17 [some (.ref a)] st S V Q ↔ xX E mX0_takeMessage 18 [some (.ref a)] (.ref a :: st) S V Q := xi (show decode cX0_takeMessage 17 = .ok (.aload_n 0, 1) by decide +kernel) rfl
theorem pX0_takeMessage_18 : xX E mX0_takeMessage 18 [l0] (.ref a :: st) S V Q ↔ xX E mX0_takeMessage 19 [l0] (.ref a :: .ref a :: st) S V Q := xi (show decode cX0_takeMessage 18 = .ok (.dup, 1) by decide +kernel) rfl
theorem pX0_takeMessage_18i : xX E mX0_takeMessage 18 [l0] (.int x :: st) S V Q ↔ xX E mX0_takeMessage 19 [l0] (.int x :: .int x :: st) S V Q := xi (show decode cX0_takeMessage 18 = .ok (.dup, 1) by decide +kernel) rfl
theorem pX0_takeMessage_19 (h : xkd S a = 1) : xX E mX0_takeMessage 19 [l0] (.ref a :: st) S V Q ↔ xX E mX0_takeMessage 22 [l0] (.int (V a 9) :: st) S V Q := xi_getI (show decode cX0_takeMessage 19 = .ok (.getfield 46, 3) by decide +kernel) xft_0_46 rfl h
theorem pX0_takeMessage_22 : xX E mX0_takeMessage 22 [l0] st S V Q ↔ xX E mX0_takeMessage 23 [l0] (.int (nI 1) :: st) S V Q := xi (show decode cX0_takeMessage 22 = .ok (.iconst 1, 1) by decide +kernel) rfl
theorem pX0_takeMessage_23 : xX E mX0_takeMessage 23 [l0] (.int y :: .int x :: st) S V Q ↔ xX E mX0_takeMessage 24 [l0] (.int (x - y) :: st) S V Q := xi (show decode cX0_takeMessage 23 = .ok (.isub, 1) by decide +kernel) rfl
theorem pX0_takeMessage_24 (h : xkd S a = 1) : xX E mX0_takeMessage 24 [l0] (.int x :: .ref a :: st) S V Q ↔ xX E mX0_takeMessage 27 [l0] st S (xup V a 9 x) Q := xi_putI (show decode cX0_takeMessage 24 = .ok (.putfield 46, 3) by decide +kernel) xft_0_46 (by decide) rfl rfl h
theorem pX0_takeMessage_27 : xX E mX0_takeMessage 27 [some (.ref a)] st S V Q ↔ xX E mX0_takeMessage 28 [some (.ref a)] (.ref a :: st) S V Q := xi (show decode cX0_takeMessage 27 = .ok (.aload_n 0, 1) by decide +kernel) rfl
theorem pX0_takeMessage_28 (h : xkd S a = 1) : xX E mX0_takeMessage 28 [l0] (.ref a :: st) S V Q ↔ xX E mX0_takeMessage 31 [l0] (va_rf (xrf S a 2) :: st) S V Q := xi_getR (show decode cX0_takeMessage 28 = .ok (.getfield 18, 3) by decide +kernel) xft_0_18 rfl h
theorem pX0_takeMessage_31 : xX E mX0_takeMessage 31 [l0] st S V Q ↔ xX E mX0_takeMessage 32 [l0] (.int (nI 1) :: st) S V Q := xi (show decode cX0_takeMessage 31 = .ok (.iconst 1, 1) by decide +kernel) rfl
theorem pX0_takeMessage_32 : xX E mX0_takeMessage 32 [some (.ref a)] st S V Q ↔ xX E mX0_takeMessage 33 [some (.ref a)] (.ref a :: st) S V Q := xi (show decode cX0_takeMessage 32 = .ok (.aload_n 0, 1) by decide +kernel) rfl
theorem pX0_takeMessage_33 (h : xkd S a = 1) : xX E mX0_takeMessage 33 [l0] (.ref a :: st) S V Q ↔ xX E mX0_takeMessage 36 [l0] (va_rf (xrf S a 2) :: st) S V Q := xi_getR (show decode cX0_takeMessage 33 = .ok (.getfield 18, 3) by decide +kernel) xft_0_18 rfl h
theorem pX0_takeMessage_36 : xX E mX0_takeMessage 36 [l0] st S V Q ↔ xX E mX0_takeMessage 37 [l0] (.int (nI 0) :: st) S V Q := xi (show decode cX0_takeMessage 36 = .ok (.iconst 0, 1) by decide +kernel) rfl
theorem pX0_takeMessage_37 : xX E mX0_takeMessage 37 [l0] st S V Q ↔ xX E mX0_takeMessage 38 [l0] (.int (nI 3) :: st) S V Q := xi (show decode cX0_takeMessage 37 = .ok (.iconst 3, 1) by decide +kernel) rfl
theorem pX0_takeMessage_38 (h0 : xkd S b = 7) (h1 : xkd S a = 7) (h4 : d + c ≤ xln S b) (h5 : e + c ≤ xln S a) (b0 : xln S b < 2147483648) (b1 : xln S a < 2147483648) (hc : xcat st ≤ 8) : xX E mX0_takeMessage 38 [l0] (.int (nI c) :: .int (nI e) :: .ref a :: .int (nI d) :: .ref b :: st) S V Q ↔ xX E mX0_takeMessage 41 [l0] st S (xrow V a (va_cpy (V b) (V a) d e c)) Q := xi_copy (show decode cX0_takeMessage 38 = .ok (.invokestatic 24, 3) by decide +kernel) xcn_0_24 xmn_0_24 (by decide) (by decide) h0 h1 h4 h5 b0 b1 hc
theorem pX0_takeMessage_41 : xX E mX0_takeMessage 41 [l0] [] S V Q ↔ Q none S V := xi_retV (show decode cX0_takeMessage 41 = .ok (.return_, 1) by decide +kernel) rfl
-- TurnSlots$Machine.areDone(I)Z
theorem pX2_areDone_0 : xX E mX2_areDone 0 [l0, l1, l2] st S V Q ↔ xX E mX2_areDone 1 [l0, l1, l2] (.int (nI 0) :: st) S V Q := xi (show decode cX2_areDone 0 = .ok (.iconst 0, 1) by decide +kernel) rfl
theorem pX2_areDone_1 (h : xnl l1 = true) : xX E mX2_areDone 1 [l0, l1, l2] (.int x :: st) S V Q ↔ xX E mX2_areDone 2 [l0, l1, some (.int x)] st S V Q := xi_st1 (j := 1) (v := .int x) (show decode cX2_areDone 1 = .ok (.istore_n 2, 1) by decide +kernel) rfl h rfl rfl
theorem pX2_areDone_2 : xX E mX2_areDone 2 [l0, l1, some (.int x)] st S V Q ↔ xX E mX2_areDone 3 [l0, l1, some (.int x)] (.int x :: st) S V Q := xi (show decode cX2_areDone 2 = .ok (.iload_n 2, 1) by decide +kernel) rfl
theorem pX2_areDone_3 : xX E mX2_areDone 3 [l0, l1, l2] st S V Q ↔ xX E mX2_areDone 5 [l0, l1, l2] (.int (nI 8) :: st) S V Q := xi (show decode cX2_areDone 3 = .ok (.bipush 8, 2) by decide +kernel) rfl
theorem pX2_areDone_5 : xX E mX2_areDone 5 [l0, l1, l2] (.int y :: .int x :: st) S V Q ↔ if y ≤ x then xX E mX2_areDone 45 [l0, l1, l2] st S V Q else xX E mX2_areDone 8 [l0, l1, l2] st S V Q := xi_icmp (show decode cX2_areDone 5 = .ok (.if_icmp .ge 40, 3) by decide +kernel) (by decide) xcb_ge
theorem pX2_areDone_8 : xX E mX2_areDone 8 [l0, some (.int x), l2] st S V Q ↔ xX E mX2_areDone 9 [l0, some (.int x), l2] (.int x :: st) S V Q := xi (show decode cX2_areDone 8 = .ok (.iload_n 1, 1) by decide +kernel) rfl
theorem pX2_areDone_9 : xX E mX2_areDone 9 [l0, l1, some (.int x)] st S V Q ↔ xX E mX2_areDone 10 [l0, l1, some (.int x)] (.int x :: st) S V Q := xi (show decode cX2_areDone 9 = .ok (.iload_n 2, 1) by decide +kernel) rfl
theorem pX2_areDone_10 {x0 : Int32} {x1 : Int32} (hc : xcat st ≤ 8) : xX E mX2_areDone 10 [l0, l1, l2] (.int x1 :: .int x0 :: st) S V Q ↔ xC E mX4_has [.int x0, .int x1] S V (fun v S V => xX E mX2_areDone 13 [l0, l1, l2] (v.toList ++ st) S V Q) := xi_callS (as := [.int x0, .int x1]) (show decode cX2_areDone 10 = .ok (.invokestatic 67, 3) by decide +kernel) xct_2_67 (by decide) rfl rfl (by decide) (Nat.le_of_ble_eq_true rfl) hc
theorem pX2_areDone_13 : xX E mX2_areDone 13 [l0, l1, l2] (.int x :: st) S V Q ↔ if x = nI 0 then xX E mX2_areDone 39 [l0, l1, l2] st S V Q else xX E mX2_areDone 16 [l0, l1, l2] st S V Q := xi_if (show decode cX2_areDone 13 = .ok (.ifCond .eq 26, 3) by decide +kernel) (by decide) xcb_eq
theorem pX2_areDone_16 : xX E mX2_areDone 16 [some (.ref a), l1, l2] st S V Q ↔ xX E mX2_areDone 17 [some (.ref a), l1, l2] (.ref a :: st) S V Q := xi (show decode cX2_areDone 16 = .ok (.aload_n 0, 1) by decide +kernel) rfl
theorem pX2_areDone_17 (h : xkd S a = 3) : xX E mX2_areDone 17 [l0, l1, l2] (.ref a :: st) S V Q ↔ xX E mX2_areDone 20 [l0, l1, l2] (va_rf (xrf S a 0) :: st) S V Q := xi_getR (show decode cX2_areDone 17 = .ok (.getfield 11, 3) by decide +kernel) xft_2_11 rfl h
theorem pX2_areDone_20 : xX E mX2_areDone 20 [l0, l1, some (.int x)] st S V Q ↔ xX E mX2_areDone 21 [l0, l1, some (.int x)] (.int x :: st) S V Q := xi (show decode cX2_areDone 20 = .ok (.iload_n 2, 1) by decide +kernel) rfl
theorem pX2_areDone_21 (h : xkd S a = 10 ∨ xkd S a = 11) (hi : b < xln S a) (hn : xln S a < 2147483648) : xX E mX2_areDone 21 [l0, l1, l2] (.int (nI b) :: .ref a :: st) S V Q ↔ xX E mX2_areDone 22 [l0, l1, l2] (va_rf (xrf S a b) :: st) S V Q := xi_aald (show decode cX2_areDone 21 = .ok (.aaload, 1) by decide +kernel) h hi hn
theorem pX2_areDone_22 (h : xkd S a = 1) : xX E mX2_areDone 22 [l0, l1, l2] (.ref a :: st) S V Q ↔ xX E mX2_areDone 25 [l0, l1, l2] (.int (V a 6) :: st) S V Q := xi_getI (show decode cX2_areDone 22 = .ok (.getfield 45, 3) by decide +kernel) xft_2_45 rfl h
theorem pX2_areDone_25 : xX E mX2_areDone 25 [some (.ref a), l1, l2] st S V Q ↔ xX E mX2_areDone 26 [some (.ref a), l1, l2] (.ref a :: st) S V Q := xi (show decode cX2_areDone 25 = .ok (.aload_n 0, 1) by decide +kernel) rfl
theorem pX2_areDone_26 (h : xkd S a = 3) : xX E mX2_areDone 26 [l0, l1, l2] (.ref a :: st) S V Q ↔ xX E mX2_areDone 29 [l0, l1, l2] (va_rf (xrf S a 0) :: st) S V Q := xi_getR (show decode cX2_areDone 26 = .ok (.getfield 11, 3) by decide +kernel) xft_2_11 rfl h
theorem pX2_areDone_29 : xX E mX2_areDone 29 [l0, l1, some (.int x)] st S V Q ↔ xX E mX2_areDone 30 [l0, l1, some (.int x)] (.int x :: st) S V Q := xi (show decode cX2_areDone 29 = .ok (.iload_n 2, 1) by decide +kernel) rfl
theorem pX2_areDone_30 (h : xkd S a = 10 ∨ xkd S a = 11) (hi : b < xln S a) (hn : xln S a < 2147483648) : xX E mX2_areDone 30 [l0, l1, l2] (.int (nI b) :: .ref a :: st) S V Q ↔ xX E mX2_areDone 31 [l0, l1, l2] (va_rf (xrf S a b) :: st) S V Q := xi_aald (show decode cX2_areDone 30 = .ok (.aaload, 1) by decide +kernel) h hi hn
theorem pX2_areDone_31 (h : xkd S a = 1) : xX E mX2_areDone 31 [l0, l1, l2] (.ref a :: st) S V Q ↔ xX E mX2_areDone 34 [l0, l1, l2] (.int (V a 4) :: st) S V Q := xi_getI (show decode cX2_areDone 31 = .ok (.getfield 48, 3) by decide +kernel) xft_2_48 rfl h
theorem pX2_areDone_34 : xX E mX2_areDone 34 [l0, l1, l2] (.int y :: .int x :: st) S V Q ↔ if y ≤ x then xX E mX2_areDone 39 [l0, l1, l2] st S V Q else xX E mX2_areDone 37 [l0, l1, l2] st S V Q := xi_icmp (show decode cX2_areDone 34 = .ok (.if_icmp .ge 5, 3) by decide +kernel) (by decide) xcb_ge
theorem pX2_areDone_37 : xX E mX2_areDone 37 [l0, l1, l2] st S V Q ↔ xX E mX2_areDone 38 [l0, l1, l2] (.int (nI 0) :: st) S V Q := xi (show decode cX2_areDone 37 = .ok (.iconst 0, 1) by decide +kernel) rfl
theorem pX2_areDone_38 (h : b < 2) : xX E mX2_areDone 38 [l0, l1, l2] [.int (nI b)] S V Q ↔ Q (some (.int (nI b))) S V := xi_retZ (show decode cX2_areDone 38 = .ok (.ireturn, 1) by decide +kernel) rfl h
theorem pX2_areDone_39 (h : xnl l1 = true) : xX E mX2_areDone 39 [l0, l1, some (.int (nI a))] st S V Q ↔ xX E mX2_areDone 42 [l0, l1, some (.int (nI (a + 1)))] st S V Q := xi_iinc (j := 1) (show decode cX2_areDone 39 = .ok (.iinc 2 1, 3) by decide +kernel) rfl h rfl (nI_add a 1) (Nat.le_of_ble_eq_true rfl) rfl
theorem pX2_areDone_42 : xX E mX2_areDone 42 [l0, l1, l2] st S V Q ↔ xX E mX2_areDone 2 [l0, l1, l2] st S V Q := xi_goto (show decode cX2_areDone 42 = .ok (.goto (-40), 3) by decide +kernel) (by decide)
theorem pX2_areDone_45 : xX E mX2_areDone 45 [l0, l1, l2] st S V Q ↔ xX E mX2_areDone 46 [l0, l1, l2] (.int (nI 1) :: st) S V Q := xi (show decode cX2_areDone 45 = .ok (.iconst 1, 1) by decide +kernel) rfl
theorem pX2_areDone_46 (h : b < 2) : xX E mX2_areDone 46 [l0, l1, l2] [.int (nI b)] S V Q ↔ Q (some (.int (nI b))) S V := xi_retZ (show decode cX2_areDone 46 = .ok (.ireturn, 1) by decide +kernel) rfl h
-- TurnSlots$Machine.isStuck()Z
theorem pX2_isStuck_0 : xX E mX2_isStuck 0 [l0, l1, l2, l3] st S V Q ↔ xX E mX2_isStuck 1 [l0, l1, l2, l3] (.int (nI 0) :: st) S V Q := xi (show decode cX2_isStuck 0 = .ok (.iconst 0, 1) by decide +kernel) rfl
theorem pX2_isStuck_1 (h : xnl l0 = true) : xX E mX2_isStuck 1 [l0, l1, l2, l3] (.int x :: st) S V Q ↔ xX E mX2_isStuck 2 [l0, some (.int x), l2, l3] st S V Q := xi_st1 (j := 0) (v := .int x) (show decode cX2_isStuck 1 = .ok (.istore_n 1, 1) by decide +kernel) rfl h rfl rfl
theorem pX2_isStuck_2 : xX E mX2_isStuck 2 [l0, l1, l2, l3] st S V Q ↔ xX E mX2_isStuck 3 [l0, l1, l2, l3] (.int (nI 0) :: st) S V Q := xi (show decode cX2_isStuck 2 = .ok (.iconst 0, 1) by decide +kernel) rfl
theorem pX2_isStuck_3 (h : xnl l1 = true) : xX E mX2_isStuck 3 [l0, l1, l2, l3] (.int x :: st) S V Q ↔ xX E mX2_isStuck 4 [l0, l1, some (.int x), l3] st S V Q := xi_st1 (j := 1) (v := .int x) (show decode cX2_isStuck 3 = .ok (.istore_n 2, 1) by decide +kernel) rfl h rfl rfl
theorem pX2_isStuck_4 : xX E mX2_isStuck 4 [l0, l1, some (.int x), l3] st S V Q ↔ xX E mX2_isStuck 5 [l0, l1, some (.int x), l3] (.int x :: st) S V Q := xi (show decode cX2_isStuck 4 = .ok (.iload_n 2, 1) by decide +kernel) rfl
theorem pX2_isStuck_5 : xX E mX2_isStuck 5 [l0, l1, l2, l3] st S V Q ↔ xX E mX2_isStuck 7 [l0, l1, l2, l3] (.int (nI 8) :: st) S V Q := xi (show decode cX2_isStuck 5 = .ok (.bipush 8, 2) by decide +kernel) rfl
theorem pX2_isStuck_7 : xX E mX2_isStuck 7 [l0, l1, l2, l3] (.int y :: .int x :: st) S V Q ↔ if y ≤ x then xX E mX2_isStuck 48 [l0, l1, l2, l3] st S V Q else xX E mX2_isStuck 10 [l0, l1, l2, l3] st S V Q := xi_icmp (show decode cX2_isStuck 7 = .ok (.if_icmp .ge 41, 3) by decide +kernel) (by decide) xcb_ge
theorem pX2_isStuck_10 : xX E mX2_isStuck 10 [some (.ref a), l1, l2, l3] st S V Q ↔ xX E mX2_isStuck 11 [some (.ref a), l1, l2, l3] (.ref a :: st) S V Q := xi (show decode cX2_isStuck 10 = .ok (.aload_n 0, 1) by decide +kernel) rfl
theorem pX2_isStuck_11 : xX E mX2_isStuck 11 [l0, l1, some (.int x), l3] st S V Q ↔ xX E mX2_isStuck 12 [l0, l1, some (.int x), l3] (.int x :: st) S V Q := xi (show decode cX2_isStuck 11 = .ok (.iload_n 2, 1) by decide +kernel) rfl
theorem pX2_isStuck_12 {x0 : Int32} (h : xkd S a = 3) (hc : xcat st ≤ 8) : xX E mX2_isStuck 12 [l0, l1, l2, l3] (.int x0 :: .ref a :: st) S V Q ↔ xC E mX2_stateOf [.ref a, .int x0] S V (fun v S V => xX E mX2_isStuck 15 [l0, l1, l2, l3] (v.toList ++ st) S V Q) := xi_callV (as := [.int x0]) (show decode cX2_isStuck 12 = .ok (.invokevirtual 63, 3) by decide +kernel) xct_2_63 rfl rfl (by decide) (Nat.le_of_ble_eq_true rfl) rfl h hc
theorem pX2_isStuck_15 (h : xnl l2 = true) : xX E mX2_isStuck 15 [l0, l1, l2, l3] (.int x :: st) S V Q ↔ xX E mX2_isStuck 16 [l0, l1, l2, some (.int x)] st S V Q := xi_st1 (j := 2) (v := .int x) (show decode cX2_isStuck 15 = .ok (.istore_n 3, 1) by decide +kernel) rfl h rfl rfl
theorem pX2_isStuck_16 : xX E mX2_isStuck 16 [l0, l1, l2, some (.int x)] st S V Q ↔ xX E mX2_isStuck 17 [l0, l1, l2, some (.int x)] (.int x :: st) S V Q := xi (show decode cX2_isStuck 16 = .ok (.iload_n 3, 1) by decide +kernel) rfl
theorem pX2_isStuck_17 : xX E mX2_isStuck 17 [l0, l1, l2, l3] st S V Q ↔ xX E mX2_isStuck 18 [l0, l1, l2, l3] (.int (nI 1) :: st) S V Q := xi (show decode cX2_isStuck 17 = .ok (.iconst 1, 1) by decide +kernel) rfl
theorem pX2_isStuck_18 : xX E mX2_isStuck 18 [l0, l1, l2, l3] (.int y :: .int x :: st) S V Q ↔ if x = y then xX E mX2_isStuck 26 [l0, l1, l2, l3] st S V Q else xX E mX2_isStuck 21 [l0, l1, l2, l3] st S V Q := xi_icmp (show decode cX2_isStuck 18 = .ok (.if_icmp .eq 8, 3) by decide +kernel) (by decide) xcb_eq
theorem pX2_isStuck_21 : xX E mX2_isStuck 21 [l0, l1, l2, some (.int x)] st S V Q ↔ xX E mX2_isStuck 22 [l0, l1, l2, some (.int x)] (.int x :: st) S V Q := xi (show decode cX2_isStuck 21 = .ok (.iload_n 3, 1) by decide +kernel) rfl
theorem pX2_isStuck_22 : xX E mX2_isStuck 22 [l0, l1, l2, l3] st S V Q ↔ xX E mX2_isStuck 23 [l0, l1, l2, l3] (.int (nI 2) :: st) S V Q := xi (show decode cX2_isStuck 22 = .ok (.iconst 2, 1) by decide +kernel) rfl
theorem pX2_isStuck_23 : xX E mX2_isStuck 23 [l0, l1, l2, l3] (.int y :: .int x :: st) S V Q ↔ if ¬ x = y then xX E mX2_isStuck 28 [l0, l1, l2, l3] st S V Q else xX E mX2_isStuck 26 [l0, l1, l2, l3] st S V Q := xi_icmp (show decode cX2_isStuck 23 = .ok (.if_icmp .ne 5, 3) by decide +kernel) (by decide) xcb_ne
theorem pX2_isStuck_26 : xX E mX2_isStuck 26 [l0, l1, l2, l3] st S V Q ↔ xX E mX2_isStuck 27 [l0, l1, l2, l3] (.int (nI 0) :: st) S V Q := xi (show decode cX2_isStuck 26 = .ok (.iconst 0, 1) by decide +kernel) rfl
theorem pX2_isStuck_27 (h : b < 2) : xX E mX2_isStuck 27 [l0, l1, l2, l3] [.int (nI b)] S V Q ↔ Q (some (.int (nI b))) S V := xi_retZ (show decode cX2_isStuck 27 = .ok (.ireturn, 1) by decide +kernel) rfl h
theorem pX2_isStuck_28 : xX E mX2_isStuck 28 [l0, some (.int x), l2, l3] st S V Q ↔ xX E mX2_isStuck 29 [l0, some (.int x), l2, l3] (.int x :: st) S V Q := xi (show decode cX2_isStuck 28 = .ok (.iload_n 1, 1) by decide +kernel) rfl
theorem pX2_isStuck_29 : xX E mX2_isStuck 29 [l0, l1, l2, l3] (.int x :: st) S V Q ↔ if ¬ x = nI 0 then xX E mX2_isStuck 36 [l0, l1, l2, l3] st S V Q else xX E mX2_isStuck 32 [l0, l1, l2, l3] st S V Q := xi_if (show decode cX2_isStuck 29 = .ok (.ifCond .ne 7, 3) by decide +kernel) (by decide) xcb_ne
theorem pX2_isStuck_32 : xX E mX2_isStuck 32 [l0, l1, l2, some (.int x)] st S V Q ↔ xX E mX2_isStuck 33 [l0, l1, l2, some (.int x)] (.int x :: st) S V Q := xi (show decode cX2_isStuck 32 = .ok (.iload_n 3, 1) by decide +kernel) rfl
theorem pX2_isStuck_33 : xX E mX2_isStuck 33 [l0, l1, l2, l3] (.int x :: st) S V Q ↔ if x = nI 0 then xX E mX2_isStuck 40 [l0, l1, l2, l3] st S V Q else xX E mX2_isStuck 36 [l0, l1, l2, l3] st S V Q := xi_if (show decode cX2_isStuck 33 = .ok (.ifCond .eq 7, 3) by decide +kernel) (by decide) xcb_eq
theorem pX2_isStuck_36 : xX E mX2_isStuck 36 [l0, l1, l2, l3] st S V Q ↔ xX E mX2_isStuck 37 [l0, l1, l2, l3] (.int (nI 1) :: st) S V Q := xi (show decode cX2_isStuck 36 = .ok (.iconst 1, 1) by decide +kernel) rfl
theorem pX2_isStuck_37 : xX E mX2_isStuck 37 [l0, l1, l2, l3] st S V Q ↔ xX E mX2_isStuck 41 [l0, l1, l2, l3] st S V Q := xi_goto (show decode cX2_isStuck 37 = .ok (.goto 4, 3) by decide +kernel) (by decide)
theorem pX2_isStuck_40 : xX E mX2_isStuck 40 [l0, l1, l2, l3] st S V Q ↔ xX E mX2_isStuck 41 [l0, l1, l2, l3] (.int (nI 0) :: st) S V Q := xi (show decode cX2_isStuck 40 = .ok (.iconst 0, 1) by decide +kernel) rfl
theorem pX2_isStuck_41 (h : xnl l0 = true) : xX E mX2_isStuck 41 [l0, l1, l2, l3] (.int x :: st) S V Q ↔ xX E mX2_isStuck 42 [l0, some (.int x), l2, l3] st S V Q := xi_st1 (j := 0) (v := .int x) (show decode cX2_isStuck 41 = .ok (.istore_n 1, 1) by decide +kernel) rfl h rfl rfl
theorem pX2_isStuck_42 (h : xnl l1 = true) : xX E mX2_isStuck 42 [l0, l1, some (.int (nI a)), l3] st S V Q ↔ xX E mX2_isStuck 45 [l0, l1, some (.int (nI (a + 1))), l3] st S V Q := xi_iinc (j := 1) (show decode cX2_isStuck 42 = .ok (.iinc 2 1, 3) by decide +kernel) rfl h rfl (nI_add a 1) (Nat.le_of_ble_eq_true rfl) rfl
theorem pX2_isStuck_45 : xX E mX2_isStuck 45 [l0, l1, l2, l3] st S V Q ↔ xX E mX2_isStuck 4 [l0, l1, l2, l3] st S V Q := xi_goto (show decode cX2_isStuck 45 = .ok (.goto (-41), 3) by decide +kernel) (by decide)
theorem pX2_isStuck_48 : xX E mX2_isStuck 48 [l0, some (.int x), l2, l3] st S V Q ↔ xX E mX2_isStuck 49 [l0, some (.int x), l2, l3] (.int x :: st) S V Q := xi (show decode cX2_isStuck 48 = .ok (.iload_n 1, 1) by decide +kernel) rfl
theorem pX2_isStuck_49 (h : b < 2) : xX E mX2_isStuck 49 [l0, l1, l2, l3] [.int (nI b)] S V Q ↔ Q (some (.int (nI b))) S V := xi_retZ (show decode cX2_isStuck 49 = .ok (.ireturn, 1) by decide +kernel) rfl h
-- TurnSlots$Machine.lentPriority(I[I)I
theorem pX2_lentPriority_0 : xX E mX2_lentPriority 0 [some (.ref a), l1, l2, l3, l4] st S V Q ↔ xX E mX2_lentPriority 1 [some (.ref a), l1, l2, l3, l4] (.ref a :: st) S V Q := xi (show decode cX2_lentPriority 0 = .ok (.aload_n 0, 1) by decide +kernel) rfl
theorem pX2_lentPriority_1 (h : xkd S a = 3) : xX E mX2_lentPriority 1 [l0, l1, l2, l3, l4] (.ref a :: st) S V Q ↔ xX E mX2_lentPriority 4 [l0, l1, l2, l3, l4] (va_rf (xrf S a 0) :: st) S V Q := xi_getR (show decode cX2_lentPriority 1 = .ok (.getfield 11, 3) by decide +kernel) xft_2_11 rfl h
theorem pX2_lentPriority_4 : xX E mX2_lentPriority 4 [l0, some (.int x), l2, l3, l4] st S V Q ↔ xX E mX2_lentPriority 5 [l0, some (.int x), l2, l3, l4] (.int x :: st) S V Q := xi (show decode cX2_lentPriority 4 = .ok (.iload_n 1, 1) by decide +kernel) rfl
theorem pX2_lentPriority_5 (h : xkd S a = 10 ∨ xkd S a = 11) (hi : b < xln S a) (hn : xln S a < 2147483648) : xX E mX2_lentPriority 5 [l0, l1, l2, l3, l4] (.int (nI b) :: .ref a :: st) S V Q ↔ xX E mX2_lentPriority 6 [l0, l1, l2, l3, l4] (va_rf (xrf S a b) :: st) S V Q := xi_aald (show decode cX2_lentPriority 5 = .ok (.aaload, 1) by decide +kernel) h hi hn
theorem pX2_lentPriority_6 (h : xkd S a = 1) : xX E mX2_lentPriority 6 [l0, l1, l2, l3, l4] (.ref a :: st) S V Q ↔ xX E mX2_lentPriority 9 [l0, l1, l2, l3, l4] (.int (V a 8) :: st) S V Q := xi_getI (show decode cX2_lentPriority 6 = .ok (.getfield 77, 3) by decide +kernel) xft_2_77 rfl h
theorem pX2_lentPriority_9 (h : xnl l2 = true) : xX E mX2_lentPriority 9 [l0, l1, l2, l3, l4] (.int x :: st) S V Q ↔ xX E mX2_lentPriority 10 [l0, l1, l2, some (.int x), l4] st S V Q := xi_st1 (j := 2) (v := .int x) (show decode cX2_lentPriority 9 = .ok (.istore_n 3, 1) by decide +kernel) rfl h rfl rfl
theorem pX2_lentPriority_10 : xX E mX2_lentPriority 10 [l0, l1, l2, l3, l4] st S V Q ↔ xX E mX2_lentPriority 11 [l0, l1, l2, l3, l4] (.int (nI 0) :: st) S V Q := xi (show decode cX2_lentPriority 10 = .ok (.iconst 0, 1) by decide +kernel) rfl
theorem pX2_lentPriority_11 (h : xnl l3 = true) : xX E mX2_lentPriority 11 [l0, l1, l2, l3, l4] (.int x :: st) S V Q ↔ xX E mX2_lentPriority 13 [l0, l1, l2, l3, some (.int x)] st S V Q := xi_st1 (j := 3) (v := .int x) (show decode cX2_lentPriority 11 = .ok (.istore 4, 2) by decide +kernel) rfl h rfl rfl
theorem pX2_lentPriority_13 : xX E mX2_lentPriority 13 [l0, l1, l2, l3, some (.int x)] st S V Q ↔ xX E mX2_lentPriority 15 [l0, l1, l2, l3, some (.int x)] (.int x :: st) S V Q := xi (show decode cX2_lentPriority 13 = .ok (.iload 4, 2) by decide +kernel) rfl
theorem pX2_lentPriority_15 : xX E mX2_lentPriority 15 [l0, l1, l2, l3, l4] st S V Q ↔ xX E mX2_lentPriority 17 [l0, l1, l2, l3, l4] (.int (nI 8) :: st) S V Q := xi (show decode cX2_lentPriority 15 = .ok (.bipush 8, 2) by decide +kernel) rfl
theorem pX2_lentPriority_17 : xX E mX2_lentPriority 17 [l0, l1, l2, l3, l4] (.int y :: .int x :: st) S V Q ↔ if y ≤ x then xX E mX2_lentPriority 52 [l0, l1, l2, l3, l4] st S V Q else xX E mX2_lentPriority 20 [l0, l1, l2, l3, l4] st S V Q := xi_icmp (show decode cX2_lentPriority 17 = .ok (.if_icmp .ge 35, 3) by decide +kernel) (by decide) xcb_ge
theorem pX2_lentPriority_20 : xX E mX2_lentPriority 20 [l0, l1, some (.ref a), l3, l4] st S V Q ↔ xX E mX2_lentPriority 21 [l0, l1, some (.ref a), l3, l4] (.ref a :: st) S V Q := xi (show decode cX2_lentPriority 20 = .ok (.aload_n 2, 1) by decide +kernel) rfl
theorem pX2_lentPriority_21 : xX E mX2_lentPriority 21 [l0, l1, l2, l3, some (.int x)] st S V Q ↔ xX E mX2_lentPriority 23 [l0, l1, l2, l3, some (.int x)] (.int x :: st) S V Q := xi (show decode cX2_lentPriority 21 = .ok (.iload 4, 2) by decide +kernel) rfl
theorem pX2_lentPriority_23 (h : xkd S a = 7 ∨ xkd S a = 14) (hi : b < xln S a) (hn : xln S a < 2147483648) : xX E mX2_lentPriority 23 [l0, l1, l2, l3, l4] (.int (nI b) :: .ref a :: st) S V Q ↔ xX E mX2_lentPriority 24 [l0, l1, l2, l3, l4] (.int (V a b) :: st) S V Q := xi_iald (show decode cX2_lentPriority 23 = .ok (.iaload, 1) by decide +kernel) h hi hn
theorem pX2_lentPriority_24 : xX E mX2_lentPriority 24 [l0, some (.int x), l2, l3, l4] st S V Q ↔ xX E mX2_lentPriority 25 [l0, some (.int x), l2, l3, l4] (.int x :: st) S V Q := xi (show decode cX2_lentPriority 24 = .ok (.iload_n 1, 1) by decide +kernel) rfl
theorem pX2_lentPriority_25 {x0 : Int32} {x1 : Int32} (hc : xcat st ≤ 8) : xX E mX2_lentPriority 25 [l0, l1, l2, l3, l4] (.int x1 :: .int x0 :: st) S V Q ↔ xC E mX4_has [.int x0, .int x1] S V (fun v S V => xX E mX2_lentPriority 28 [l0, l1, l2, l3, l4] (v.toList ++ st) S V Q) := xi_callS (as := [.int x0, .int x1]) (show decode cX2_lentPriority 25 = .ok (.invokestatic 67, 3) by decide +kernel) xct_2_67 (by decide) rfl rfl (by decide) (Nat.le_of_ble_eq_true rfl) hc
theorem pX2_lentPriority_28 : xX E mX2_lentPriority 28 [l0, l1, l2, l3, l4] (.int x :: st) S V Q ↔ if x = nI 0 then xX E mX2_lentPriority 46 [l0, l1, l2, l3, l4] st S V Q else xX E mX2_lentPriority 31 [l0, l1, l2, l3, l4] st S V Q := xi_if (show decode cX2_lentPriority 28 = .ok (.ifCond .eq 18, 3) by decide +kernel) (by decide) xcb_eq
theorem pX2_lentPriority_31 : xX E mX2_lentPriority 31 [l0, l1, l2, some (.int x), l4] st S V Q ↔ xX E mX2_lentPriority 32 [l0, l1, l2, some (.int x), l4] (.int x :: st) S V Q := xi (show decode cX2_lentPriority 31 = .ok (.iload_n 3, 1) by decide +kernel) rfl
theorem pX2_lentPriority_32 : xX E mX2_lentPriority 32 [some (.ref a), l1, l2, l3, l4] st S V Q ↔ xX E mX2_lentPriority 33 [some (.ref a), l1, l2, l3, l4] (.ref a :: st) S V Q := xi (show decode cX2_lentPriority 32 = .ok (.aload_n 0, 1) by decide +kernel) rfl
theorem pX2_lentPriority_33 (h : xkd S a = 3) : xX E mX2_lentPriority 33 [l0, l1, l2, l3, l4] (.ref a :: st) S V Q ↔ xX E mX2_lentPriority 36 [l0, l1, l2, l3, l4] (va_rf (xrf S a 0) :: st) S V Q := xi_getR (show decode cX2_lentPriority 33 = .ok (.getfield 11, 3) by decide +kernel) xft_2_11 rfl h
theorem pX2_lentPriority_36 : xX E mX2_lentPriority 36 [l0, l1, l2, l3, some (.int x)] st S V Q ↔ xX E mX2_lentPriority 38 [l0, l1, l2, l3, some (.int x)] (.int x :: st) S V Q := xi (show decode cX2_lentPriority 36 = .ok (.iload 4, 2) by decide +kernel) rfl
theorem pX2_lentPriority_38 (h : xkd S a = 10 ∨ xkd S a = 11) (hi : b < xln S a) (hn : xln S a < 2147483648) : xX E mX2_lentPriority 38 [l0, l1, l2, l3, l4] (.int (nI b) :: .ref a :: st) S V Q ↔ xX E mX2_lentPriority 39 [l0, l1, l2, l3, l4] (va_rf (xrf S a b) :: st) S V Q := xi_aald (show decode cX2_lentPriority 38 = .ok (.aaload, 1) by decide +kernel) h hi hn
theorem pX2_lentPriority_39 (h : xkd S a = 1) : xX E mX2_lentPriority 39 [l0, l1, l2, l3, l4] (.ref a :: st) S V Q ↔ xX E mX2_lentPriority 42 [l0, l1, l2, l3, l4] (.int (V a 8) :: st) S V Q := xi_getI (show decode cX2_lentPriority 39 = .ok (.getfield 77, 3) by decide +kernel) xft_2_77 rfl h
theorem pX2_lentPriority_42 (hc : xcat st ≤ 8) : xX E mX2_lentPriority 42 [l0, l1, l2, l3, l4] (.int y :: .int x :: st) S V Q ↔ xX E mX2_lentPriority 45 [l0, l1, l2, l3, l4] (.int (if x < y then y else x) :: st) S V Q := xi_max (show decode cX2_lentPriority 42 = .ok (.invokestatic 80, 3) by decide +kernel) xcn_2_80 xmt_2_80 (by decide) hc
theorem pX2_lentPriority_45 (h : xnl l2 = true) : xX E mX2_lentPriority 45 [l0, l1, l2, l3, l4] (.int x :: st) S V Q ↔ xX E mX2_lentPriority 46 [l0, l1, l2, some (.int x), l4] st S V Q := xi_st1 (j := 2) (v := .int x) (show decode cX2_lentPriority 45 = .ok (.istore_n 3, 1) by decide +kernel) rfl h rfl rfl
theorem pX2_lentPriority_46 (h : xnl l3 = true) : xX E mX2_lentPriority 46 [l0, l1, l2, l3, some (.int (nI a))] st S V Q ↔ xX E mX2_lentPriority 49 [l0, l1, l2, l3, some (.int (nI (a + 1)))] st S V Q := xi_iinc (j := 3) (show decode cX2_lentPriority 46 = .ok (.iinc 4 1, 3) by decide +kernel) rfl h rfl (nI_add a 1) (Nat.le_of_ble_eq_true rfl) rfl
theorem pX2_lentPriority_49 : xX E mX2_lentPriority 49 [l0, l1, l2, l3, l4] st S V Q ↔ xX E mX2_lentPriority 13 [l0, l1, l2, l3, l4] st S V Q := xi_goto (show decode cX2_lentPriority 49 = .ok (.goto (-36), 3) by decide +kernel) (by decide)
theorem pX2_lentPriority_52 : xX E mX2_lentPriority 52 [l0, l1, l2, some (.int x), l4] st S V Q ↔ xX E mX2_lentPriority 53 [l0, l1, l2, some (.int x), l4] (.int x :: st) S V Q := xi (show decode cX2_lentPriority 52 = .ok (.iload_n 3, 1) by decide +kernel) rfl
theorem pX2_lentPriority_53 : xX E mX2_lentPriority 53 [l0, l1, l2, l3, l4] [.int x] S V Q ↔ Q (some (.int x)) S V := xi_retI (show decode cX2_lentPriority 53 = .ok (.ireturn, 1) by decide +kernel) rfl
-- TurnSlots$Machine.setIn(I)I
theorem pX2_setIn_0 : xX E mX2_setIn 0 [l0, l1, l2, l3] st S V Q ↔ xX E mX2_setIn 1 [l0, l1, l2, l3] (.int (nI 0) :: st) S V Q := xi (show decode cX2_setIn 0 = .ok (.iconst 0, 1) by decide +kernel) rfl
theorem pX2_setIn_1 (h : xnl l1 = true) : xX E mX2_setIn 1 [l0, l1, l2, l3] (.int x :: st) S V Q ↔ xX E mX2_setIn 2 [l0, l1, some (.int x), l3] st S V Q := xi_st1 (j := 1) (v := .int x) (show decode cX2_setIn 1 = .ok (.istore_n 2, 1) by decide +kernel) rfl h rfl rfl
theorem pX2_setIn_2 : xX E mX2_setIn 2 [l0, l1, l2, l3] st S V Q ↔ xX E mX2_setIn 3 [l0, l1, l2, l3] (.int (nI 0) :: st) S V Q := xi (show decode cX2_setIn 2 = .ok (.iconst 0, 1) by decide +kernel) rfl
theorem pX2_setIn_3 (h : xnl l2 = true) : xX E mX2_setIn 3 [l0, l1, l2, l3] (.int x :: st) S V Q ↔ xX E mX2_setIn 4 [l0, l1, l2, some (.int x)] st S V Q := xi_st1 (j := 2) (v := .int x) (show decode cX2_setIn 3 = .ok (.istore_n 3, 1) by decide +kernel) rfl h rfl rfl
theorem pX2_setIn_4 : xX E mX2_setIn 4 [l0, l1, l2, some (.int x)] st S V Q ↔ xX E mX2_setIn 5 [l0, l1, l2, some (.int x)] (.int x :: st) S V Q := xi (show decode cX2_setIn 4 = .ok (.iload_n 3, 1) by decide +kernel) rfl
theorem pX2_setIn_5 : xX E mX2_setIn 5 [l0, l1, l2, l3] st S V Q ↔ xX E mX2_setIn 7 [l0, l1, l2, l3] (.int (nI 8) :: st) S V Q := xi (show decode cX2_setIn 5 = .ok (.bipush 8, 2) by decide +kernel) rfl
theorem pX2_setIn_7 : xX E mX2_setIn 7 [l0, l1, l2, l3] (.int y :: .int x :: st) S V Q ↔ if y ≤ x then xX E mX2_setIn 31 [l0, l1, l2, l3] st S V Q else xX E mX2_setIn 10 [l0, l1, l2, l3] st S V Q := xi_icmp (show decode cX2_setIn 7 = .ok (.if_icmp .ge 24, 3) by decide +kernel) (by decide) xcb_ge
theorem pX2_setIn_10 : xX E mX2_setIn 10 [some (.ref a), l1, l2, l3] st S V Q ↔ xX E mX2_setIn 11 [some (.ref a), l1, l2, l3] (.ref a :: st) S V Q := xi (show decode cX2_setIn 10 = .ok (.aload_n 0, 1) by decide +kernel) rfl
theorem pX2_setIn_11 : xX E mX2_setIn 11 [l0, l1, l2, some (.int x)] st S V Q ↔ xX E mX2_setIn 12 [l0, l1, l2, some (.int x)] (.int x :: st) S V Q := xi (show decode cX2_setIn 11 = .ok (.iload_n 3, 1) by decide +kernel) rfl
theorem pX2_setIn_12 {x0 : Int32} (h : xkd S a = 3) (hc : xcat st ≤ 8) : xX E mX2_setIn 12 [l0, l1, l2, l3] (.int x0 :: .ref a :: st) S V Q ↔ xC E mX2_stateOf [.ref a, .int x0] S V (fun v S V => xX E mX2_setIn 15 [l0, l1, l2, l3] (v.toList ++ st) S V Q) := xi_callV (as := [.int x0]) (show decode cX2_setIn 12 = .ok (.invokevirtual 63, 3) by decide +kernel) xct_2_63 rfl rfl (by decide) (Nat.le_of_ble_eq_true rfl) rfl h hc
theorem pX2_setIn_15 : xX E mX2_setIn 15 [l0, some (.int x), l2, l3] st S V Q ↔ xX E mX2_setIn 16 [l0, some (.int x), l2, l3] (.int x :: st) S V Q := xi (show decode cX2_setIn 15 = .ok (.iload_n 1, 1) by decide +kernel) rfl
theorem pX2_setIn_16 : xX E mX2_setIn 16 [l0, l1, l2, l3] (.int y :: .int x :: st) S V Q ↔ if ¬ x = y then xX E mX2_setIn 25 [l0, l1, l2, l3] st S V Q else xX E mX2_setIn 19 [l0, l1, l2, l3] st S V Q := xi_icmp (show decode cX2_setIn 16 = .ok (.if_icmp .ne 9, 3) by decide +kernel) (by decide) xcb_ne
theorem pX2_setIn_19 : xX E mX2_setIn 19 [l0, l1, some (.int x), l3] st S V Q ↔ xX E mX2_setIn 20 [l0, l1, some (.int x), l3] (.int x :: st) S V Q := xi (show decode cX2_setIn 19 = .ok (.iload_n 2, 1) by decide +kernel) rfl
theorem pX2_setIn_20 : xX E mX2_setIn 20 [l0, l1, l2, l3] st S V Q ↔ xX E mX2_setIn 21 [l0, l1, l2, l3] (.int (nI 1) :: st) S V Q := xi (show decode cX2_setIn 20 = .ok (.iconst 1, 1) by decide +kernel) rfl
theorem pX2_setIn_21 : xX E mX2_setIn 21 [l0, l1, l2, some (.int x)] st S V Q ↔ xX E mX2_setIn 22 [l0, l1, l2, some (.int x)] (.int x :: st) S V Q := xi (show decode cX2_setIn 21 = .ok (.iload_n 3, 1) by decide +kernel) rfl
theorem pX2_setIn_22 : xX E mX2_setIn 22 [l0, l1, l2, l3] (.int y :: .int x :: st) S V Q ↔ xX E mX2_setIn 23 [l0, l1, l2, l3] (.int (x <<< (y &&& 31)) :: st) S V Q := xi (show decode cX2_setIn 22 = .ok (.ishl, 1) by decide +kernel) rfl
theorem pX2_setIn_23 : xX E mX2_setIn 23 [l0, l1, l2, l3] (.int y :: .int x :: st) S V Q ↔ xX E mX2_setIn 24 [l0, l1, l2, l3] (.int (x ||| y) :: st) S V Q := xi (show decode cX2_setIn 23 = .ok (.ior, 1) by decide +kernel) rfl
theorem pX2_setIn_24 (h : xnl l1 = true) : xX E mX2_setIn 24 [l0, l1, l2, l3] (.int x :: st) S V Q ↔ xX E mX2_setIn 25 [l0, l1, some (.int x), l3] st S V Q := xi_st1 (j := 1) (v := .int x) (show decode cX2_setIn 24 = .ok (.istore_n 2, 1) by decide +kernel) rfl h rfl rfl
theorem pX2_setIn_25 (h : xnl l2 = true) : xX E mX2_setIn 25 [l0, l1, l2, some (.int (nI a))] st S V Q ↔ xX E mX2_setIn 28 [l0, l1, l2, some (.int (nI (a + 1)))] st S V Q := xi_iinc (j := 2) (show decode cX2_setIn 25 = .ok (.iinc 3 1, 3) by decide +kernel) rfl h rfl (nI_add a 1) (Nat.le_of_ble_eq_true rfl) rfl
theorem pX2_setIn_28 : xX E mX2_setIn 28 [l0, l1, l2, l3] st S V Q ↔ xX E mX2_setIn 4 [l0, l1, l2, l3] st S V Q := xi_goto (show decode cX2_setIn 28 = .ok (.goto (-24), 3) by decide +kernel) (by decide)
theorem pX2_setIn_31 : xX E mX2_setIn 31 [l0, l1, some (.int x), l3] st S V Q ↔ xX E mX2_setIn 32 [l0, l1, some (.int x), l3] (.int x :: st) S V Q := xi (show decode cX2_setIn 31 = .ok (.iload_n 2, 1) by decide +kernel) rfl
theorem pX2_setIn_32 : xX E mX2_setIn 32 [l0, l1, l2, l3] [.int x] S V Q ↔ Q (some (.int x)) S V := xi_retI (show decode cX2_setIn 32 = .ok (.ireturn, 1) by decide +kernel) rfl
-- TurnSlots$Machine.waitsOf(I)I
theorem pX2_waitsOf_0 : xX E mX2_waitsOf 0 [some (.ref a), l1, l2] st S V Q ↔ xX E mX2_waitsOf 1 [some (.ref a), l1, l2] (.ref a :: st) S V Q := xi (show decode cX2_waitsOf 0 = .ok (.aload_n 0, 1) by decide +kernel) rfl
theorem pX2_waitsOf_1 (h : xkd S a = 3) : xX E mX2_waitsOf 1 [l0, l1, l2] (.ref a :: st) S V Q ↔ xX E mX2_waitsOf 4 [l0, l1, l2] (va_rf (xrf S a 0) :: st) S V Q := xi_getR (show decode cX2_waitsOf 1 = .ok (.getfield 11, 3) by decide +kernel) xft_2_11 rfl h
theorem pX2_waitsOf_4 : xX E mX2_waitsOf 4 [l0, some (.int x), l2] st S V Q ↔ xX E mX2_waitsOf 5 [l0, some (.int x), l2] (.int x :: st) S V Q := xi (show decode cX2_waitsOf 4 = .ok (.iload_n 1, 1) by decide +kernel) rfl
theorem pX2_waitsOf_5 (h : xkd S a = 10 ∨ xkd S a = 11) (hi : b < xln S a) (hn : xln S a < 2147483648) : xX E mX2_waitsOf 5 [l0, l1, l2] (.int (nI b) :: .ref a :: st) S V Q ↔ xX E mX2_waitsOf 6 [l0, l1, l2] (va_rf (xrf S a b) :: st) S V Q := xi_aald (show decode cX2_waitsOf 5 = .ok (.aaload, 1) by decide +kernel) h hi hn
theorem pX2_waitsOf_6 (h : xnl l1 = true) : xX E mX2_waitsOf 6 [l0, l1, l2] (.ref a :: st) S V Q ↔ xX E mX2_waitsOf 7 [l0, l1, some (.ref a)] st S V Q := xi_st1 (j := 1) (v := .ref a) (show decode cX2_waitsOf 6 = .ok (.astore_n 2, 1) by decide +kernel) rfl h rfl rfl
theorem pX2_waitsOf_7 : xX E mX2_waitsOf 7 [some (.ref a), l1, l2] st S V Q ↔ xX E mX2_waitsOf 8 [some (.ref a), l1, l2] (.ref a :: st) S V Q := xi (show decode cX2_waitsOf 7 = .ok (.aload_n 0, 1) by decide +kernel) rfl
theorem pX2_waitsOf_8 : xX E mX2_waitsOf 8 [l0, some (.int x), l2] st S V Q ↔ xX E mX2_waitsOf 9 [l0, some (.int x), l2] (.int x :: st) S V Q := xi (show decode cX2_waitsOf 8 = .ok (.iload_n 1, 1) by decide +kernel) rfl
theorem pX2_waitsOf_9 {x0 : Int32} (h : xkd S a = 3) (hc : xcat st ≤ 8) : xX E mX2_waitsOf 9 [l0, l1, l2] (.int x0 :: .ref a :: st) S V Q ↔ xC E mX2_stateOf [.ref a, .int x0] S V (fun v S V => xX E mX2_waitsOf 12 [l0, l1, l2] (v.toList ++ st) S V Q) := xi_callV (as := [.int x0]) (show decode cX2_waitsOf 9 = .ok (.invokevirtual 63, 3) by decide +kernel) xct_2_63 rfl rfl (by decide) (Nat.le_of_ble_eq_true rfl) rfl h hc
theorem pX2_waitsOf_12_k3 : xX E mX2_waitsOf 12 [l0, l1, l2] (.int (nI 3) :: st) S V Q ↔ xX E mX2_waitsOf 40 [l0, l1, l2] st S V Q := xi_tab (off := 28) (show decode cX2_waitsOf 12 = .ok (.tableswitch 63 3 5 #[28, 45, 51], 28) by decide +kernel) (by decide) (by decide) (by decide)
theorem pX2_waitsOf_12_k4 : xX E mX2_waitsOf 12 [l0, l1, l2] (.int (nI 4) :: st) S V Q ↔ xX E mX2_waitsOf 57 [l0, l1, l2] st S V Q := xi_tab (off := 45) (show decode cX2_waitsOf 12 = .ok (.tableswitch 63 3 5 #[28, 45, 51], 28) by decide +kernel) (by decide) (by decide) (by decide)
theorem pX2_waitsOf_12_k5 : xX E mX2_waitsOf 12 [l0, l1, l2] (.int (nI 5) :: st) S V Q ↔ xX E mX2_waitsOf 63 [l0, l1, l2] st S V Q := xi_tab (off := 51) (show decode cX2_waitsOf 12 = .ok (.tableswitch 63 3 5 #[28, 45, 51], 28) by decide +kernel) (by decide) (by decide) (by decide)
theorem pX2_waitsOf_12_d (h : x.toInt < 3 ∨ 5 < x.toInt) : xX E mX2_waitsOf 12 [l0, l1, l2] (.int x :: st) S V Q ↔ xX E mX2_waitsOf 75 [l0, l1, l2] st S V Q := xi_tab (off := 63) (show decode cX2_waitsOf 12 = .ok (.tableswitch 63 3 5 #[28, 45, 51], 28) by decide +kernel) (if_pos h) (by decide) (by decide)
theorem pX2_waitsOf_40 : xX E mX2_waitsOf 40 [l0, l1, l2] st S V Q ↔ xX E mX2_waitsOf 41 [l0, l1, l2] (.int (nI 1) :: st) S V Q := xi (show decode cX2_waitsOf 40 = .ok (.iconst 1, 1) by decide +kernel) rfl
theorem pX2_waitsOf_41 : xX E mX2_waitsOf 41 [some (.ref a), l1, l2] st S V Q ↔ xX E mX2_waitsOf 42 [some (.ref a), l1, l2] (.ref a :: st) S V Q := xi (show decode cX2_waitsOf 41 = .ok (.aload_n 0, 1) by decide +kernel) rfl
theorem pX2_waitsOf_42 (h : xkd S a = 3) : xX E mX2_waitsOf 42 [l0, l1, l2] (.ref a :: st) S V Q ↔ xX E mX2_waitsOf 45 [l0, l1, l2] (va_rf (xrf S a 1) :: st) S V Q := xi_getR (show decode cX2_waitsOf 42 = .ok (.getfield 17, 3) by decide +kernel) xft_2_17 rfl h
theorem pX2_waitsOf_45 : xX E mX2_waitsOf 45 [l0, l1, some (.ref a)] st S V Q ↔ xX E mX2_waitsOf 46 [l0, l1, some (.ref a)] (.ref a :: st) S V Q := xi (show decode cX2_waitsOf 45 = .ok (.aload_n 2, 1) by decide +kernel) rfl
theorem pX2_waitsOf_46 (h : xkd S a = 1) : xX E mX2_waitsOf 46 [l0, l1, l2] (.ref a :: st) S V Q ↔ xX E mX2_waitsOf 49 [l0, l1, l2] (va_rf (xrf S a 1) :: st) S V Q := xi_getR (show decode cX2_waitsOf 46 = .ok (.getfield 54, 3) by decide +kernel) xft_2_54 rfl h
theorem pX2_waitsOf_49 : xX E mX2_waitsOf 49 [l0, l1, some (.ref a)] st S V Q ↔ xX E mX2_waitsOf 50 [l0, l1, some (.ref a)] (.ref a :: st) S V Q := xi (show decode cX2_waitsOf 49 = .ok (.aload_n 2, 1) by decide +kernel) rfl
theorem pX2_waitsOf_50 (h : xkd S a = 1) : xX E mX2_waitsOf 50 [l0, l1, l2] (.ref a :: st) S V Q ↔ xX E mX2_waitsOf 53 [l0, l1, l2] (.int (V a 6) :: st) S V Q := xi_getI (show decode cX2_waitsOf 50 = .ok (.getfield 45, 3) by decide +kernel) xft_2_45 rfl h
theorem pX2_waitsOf_53 (h : xkd S a = 7 ∨ xkd S a = 14) (hi : b < xln S a) (hn : xln S a < 2147483648) : xX E mX2_waitsOf 53 [l0, l1, l2] (.int (nI b) :: .ref a :: st) S V Q ↔ xX E mX2_waitsOf 54 [l0, l1, l2] (.int (V a b) :: st) S V Q := xi_iald (show decode cX2_waitsOf 53 = .ok (.iaload, 1) by decide +kernel) h hi hn
theorem pX2_waitsOf_54 (h : xkd S a = 7 ∨ xkd S a = 14) (hi : b < xln S a) (hn : xln S a < 2147483648) : xX E mX2_waitsOf 54 [l0, l1, l2] (.int (nI b) :: .ref a :: st) S V Q ↔ xX E mX2_waitsOf 55 [l0, l1, l2] (.int (V a b) :: st) S V Q := xi_iald (show decode cX2_waitsOf 54 = .ok (.iaload, 1) by decide +kernel) h hi hn
theorem pX2_waitsOf_55 : xX E mX2_waitsOf 55 [l0, l1, l2] (.int y :: .int x :: st) S V Q ↔ xX E mX2_waitsOf 56 [l0, l1, l2] (.int (x <<< (y &&& 31)) :: st) S V Q := xi (show decode cX2_waitsOf 55 = .ok (.ishl, 1) by decide +kernel) rfl
theorem pX2_waitsOf_56 : xX E mX2_waitsOf 56 [l0, l1, l2] [.int x] S V Q ↔ Q (some (.int x)) S V := xi_retI (show decode cX2_waitsOf 56 = .ok (.ireturn, 1) by decide +kernel) rfl
theorem pX2_waitsOf_57 : xX E mX2_waitsOf 57 [some (.ref a), l1, l2] st S V Q ↔ xX E mX2_waitsOf 58 [some (.ref a), l1, l2] (.ref a :: st) S V Q := xi (show decode cX2_waitsOf 57 = .ok (.aload_n 0, 1) by decide +kernel) rfl
theorem pX2_waitsOf_58 : xX E mX2_waitsOf 58 [l0, some (.int x), l2] st S V Q ↔ xX E mX2_waitsOf 59 [l0, some (.int x), l2] (.int x :: st) S V Q := xi (show decode cX2_waitsOf 58 = .ok (.iload_n 1, 1) by decide +kernel) rfl
theorem pX2_waitsOf_59 {x0 : Int32} (h : xkd S a = 3) (hc : xcat st ≤ 8) : xX E mX2_waitsOf 59 [l0, l1, l2] (.int x0 :: .ref a :: st) S V Q ↔ xC E mX2_sendersTo [.ref a, .int x0] S V (fun v S V => xX E mX2_waitsOf 62 [l0, l1, l2] (v.toList ++ st) S V Q) := xi_callV (as := [.int x0]) (show decode cX2_waitsOf 59 = .ok (.invokevirtual 71, 3) by decide +kernel) xct_2_71 rfl rfl (by decide) (Nat.le_of_ble_eq_true rfl) rfl h hc
theorem pX2_waitsOf_62 : xX E mX2_waitsOf 62 [l0, l1, l2] [.int x] S V Q ↔ Q (some (.int x)) S V := xi_retI (show decode cX2_waitsOf 62 = .ok (.ireturn, 1) by decide +kernel) rfl
theorem pX2_waitsOf_63 : xX E mX2_waitsOf 63 [l0, l1, l2] st S V Q ↔ xX E mX2_waitsOf 64 [l0, l1, l2] (.int (nI 1) :: st) S V Q := xi (show decode cX2_waitsOf 63 = .ok (.iconst 1, 1) by decide +kernel) rfl
theorem pX2_waitsOf_64 : xX E mX2_waitsOf 64 [l0, l1, some (.ref a)] st S V Q ↔ xX E mX2_waitsOf 65 [l0, l1, some (.ref a)] (.ref a :: st) S V Q := xi (show decode cX2_waitsOf 64 = .ok (.aload_n 2, 1) by decide +kernel) rfl
theorem pX2_waitsOf_65 (h : xkd S a = 1) : xX E mX2_waitsOf 65 [l0, l1, l2] (.ref a :: st) S V Q ↔ xX E mX2_waitsOf 68 [l0, l1, l2] (va_rf (xrf S a 1) :: st) S V Q := xi_getR (show decode cX2_waitsOf 65 = .ok (.getfield 54, 3) by decide +kernel) xft_2_54 rfl h
theorem pX2_waitsOf_68 : xX E mX2_waitsOf 68 [l0, l1, some (.ref a)] st S V Q ↔ xX E mX2_waitsOf 69 [l0, l1, some (.ref a)] (.ref a :: st) S V Q := xi (show decode cX2_waitsOf 68 = .ok (.aload_n 2, 1) by decide +kernel) rfl
theorem pX2_waitsOf_69 (h : xkd S a = 1) : xX E mX2_waitsOf 69 [l0, l1, l2] (.ref a :: st) S V Q ↔ xX E mX2_waitsOf 72 [l0, l1, l2] (.int (V a 6) :: st) S V Q := xi_getI (show decode cX2_waitsOf 69 = .ok (.getfield 45, 3) by decide +kernel) xft_2_45 rfl h
theorem pX2_waitsOf_72 (h : xkd S a = 7 ∨ xkd S a = 14) (hi : b < xln S a) (hn : xln S a < 2147483648) : xX E mX2_waitsOf 72 [l0, l1, l2] (.int (nI b) :: .ref a :: st) S V Q ↔ xX E mX2_waitsOf 73 [l0, l1, l2] (.int (V a b) :: st) S V Q := xi_iald (show decode cX2_waitsOf 72 = .ok (.iaload, 1) by decide +kernel) h hi hn
theorem pX2_waitsOf_73 : xX E mX2_waitsOf 73 [l0, l1, l2] (.int y :: .int x :: st) S V Q ↔ xX E mX2_waitsOf 74 [l0, l1, l2] (.int (x <<< (y &&& 31)) :: st) S V Q := xi (show decode cX2_waitsOf 73 = .ok (.ishl, 1) by decide +kernel) rfl
theorem pX2_waitsOf_74 : xX E mX2_waitsOf 74 [l0, l1, l2] [.int x] S V Q ↔ Q (some (.int x)) S V := xi_retI (show decode cX2_waitsOf 74 = .ok (.ireturn, 1) by decide +kernel) rfl
theorem pX2_waitsOf_75 : xX E mX2_waitsOf 75 [l0, l1, l2] st S V Q ↔ xX E mX2_waitsOf 76 [l0, l1, l2] (.int (nI 0) :: st) S V Q := xi (show decode cX2_waitsOf 75 = .ok (.iconst 0, 1) by decide +kernel) rfl
theorem pX2_waitsOf_76 : xX E mX2_waitsOf 76 [l0, l1, l2] [.int x] S V Q ↔ Q (some (.int x)) S V := xi_retI (show decode cX2_waitsOf 76 = .ok (.ireturn, 1) by decide +kernel) rfl
-- TurnSlots$Pad.<init>()V
theorem pX3_init_0 : xX E mX3_init 0 [some (.ref a)] st S V Q ↔ xX E mX3_init 1 [some (.ref a)] (.ref a :: st) S V Q := xi (show decode cX3_init 0 = .ok (.aload_n 0, 1) by decide +kernel) rfl
theorem pX3_init_1 (hc : xcat st ≤ 8) : xX E mX3_init 1 [l0] (.ref a :: st) S V Q ↔ xX E mX3_init 4 [l0] st S V Q := xi_objI (show decode cX3_init 1 = .ok (.invokespecial 3, 3) by decide +kernel) xcn_3_3 (by decide) (by decide) hc
theorem pX3_init_4 : xX E mX3_init 4 [some (.ref a)] st S V Q ↔ xX E mX3_init 5 [some (.ref a)] (.ref a :: st) S V Q := xi (show decode cX3_init 4 = .ok (.aload_n 0, 1) by decide +kernel) rfl
theorem pX3_init_5 : xX E mX3_init 5 [l0] st S V Q ↔ xX E mX3_init 7 [l0] (.int (nI 72) :: st) S V Q := xi (show decode cX3_init 5 = .ok (.bipush 72, 2) by decide +kernel) rfl
theorem pX3_init_7 (h : a ≤ 10000) : xX E mX3_init 7 [l0] (.int (nI a) :: st) S V Q ↔ xX E mX3_init 9 [l0] (.ref S.2.1 :: st) (xnew S 8 a a) (xrow V S.2.1 (fun _ => 0)) Q := xi_newarr (show decode cX3_init 7 = .ok (.newarray .char, 2) by decide +kernel) (Or.inr (Or.inl ⟨rfl, rfl⟩)) h
theorem pX3_init_9 (h : xkd S a = 4) : xX E mX3_init 9 [l0] (.ref b :: .ref a :: st) S V Q ↔ xX E mX3_init 12 [l0] st (xsetr S a 0 (some b)) V Q := xi_putR (show decode cX3_init 9 = .ok (.putfield 9, 3) by decide +kernel) xft_3_9 (by decide) rfl rfl rfl h
theorem pX3_init_12 : xX E mX3_init 12 [some (.ref a)] st S V Q ↔ xX E mX3_init 13 [some (.ref a)] (.ref a :: st) S V Q := xi (show decode cX3_init 12 = .ok (.aload_n 0, 1) by decide +kernel) rfl
theorem pX3_init_13 : xX E mX3_init 13 [l0] st S V Q ↔ xX E mX3_init 15 [l0] (.int (nI 16) :: st) S V Q := xi (show decode cX3_init 13 = .ok (.bipush 16, 2) by decide +kernel) rfl
theorem pX3_init_15 (h : a ≤ 10000) : xX E mX3_init 15 [l0] (.int (nI a) :: st) S V Q ↔ xX E mX3_init 17 [l0] (.ref S.2.1 :: st) (xnew S 7 a a) (xrow V S.2.1 (fun _ => 0)) Q := xi_newarr (show decode cX3_init 15 = .ok (.newarray .int, 2) by decide +kernel) (Or.inl ⟨rfl, rfl⟩) h
theorem pX3_init_17 (h : xkd S a = 4) : xX E mX3_init 17 [l0] (.ref b :: .ref a :: st) S V Q ↔ xX E mX3_init 20 [l0] st (xsetr S a 2 (some b)) V Q := xi_putR (show decode cX3_init 17 = .ok (.putfield 15, 3) by decide +kernel) xft_3_15 (by decide) rfl rfl rfl h
theorem pX3_init_20 : xX E mX3_init 20 [some (.ref a)] st S V Q ↔ xX E mX3_init 21 [some (.ref a)] (.ref a :: st) S V Q := xi (show decode cX3_init 20 = .ok (.aload_n 0, 1) by decide +kernel) rfl
theorem pX3_init_21 : xX E mX3_init 21 [l0] st S V Q ↔ xX E mX3_init 23 [l0] (.int (nI 16) :: st) S V Q := xi (show decode cX3_init 21 = .ok (.bipush 16, 2) by decide +kernel) rfl
theorem pX3_init_23 (h : a ≤ 10000) : xX E mX3_init 23 [l0] (.int (nI a) :: st) S V Q ↔ xX E mX3_init 25 [l0] (.ref S.2.1 :: st) (xnew S 7 a a) (xrow V S.2.1 (fun _ => 0)) Q := xi_newarr (show decode cX3_init 23 = .ok (.newarray .int, 2) by decide +kernel) (Or.inl ⟨rfl, rfl⟩) h
theorem pX3_init_25 (h : xkd S a = 4) : xX E mX3_init 25 [l0] (.ref b :: .ref a :: st) S V Q ↔ xX E mX3_init 28 [l0] st (xsetr S a 3 (some b)) V Q := xi_putR (show decode cX3_init 25 = .ok (.putfield 19, 3) by decide +kernel) xft_3_19 (by decide) rfl rfl rfl h
theorem pX3_init_28 : xX E mX3_init 28 [l0] [] S V Q ↔ Q none S V := xi_retV (show decode cX3_init 28 = .ok (.return_, 1) by decide +kernel) rfl
-- TurnSlots$Machine.<init>()V
theorem pX2_init_0 : xX E mX2_init 0 [some (.ref a), l1] st S V Q ↔ xX E mX2_init 1 [some (.ref a), l1] (.ref a :: st) S V Q := xi (show decode cX2_init 0 = .ok (.aload_n 0, 1) by decide +kernel) rfl
theorem pX2_init_1 (hc : xcat st ≤ 8) : xX E mX2_init 1 [l0, l1] (.ref a :: st) S V Q ↔ xX E mX2_init 4 [l0, l1] st S V Q := xi_objI (show decode cX2_init 1 = .ok (.invokespecial 3, 3) by decide +kernel) xcn_2_3 (by decide) (by decide) hc
theorem pX2_init_4 : xX E mX2_init 4 [some (.ref a), l1] st S V Q ↔ xX E mX2_init 5 [some (.ref a), l1] (.ref a :: st) S V Q := xi (show decode cX2_init 4 = .ok (.aload_n 0, 1) by decide +kernel) rfl
theorem pX2_init_5 : xX E mX2_init 5 [l0, l1] st S V Q ↔ xX E mX2_init 7 [l0, l1] (.int (nI 8) :: st) S V Q := xi (show decode cX2_init 5 = .ok (.bipush 8, 2) by decide +kernel) rfl
theorem pX2_init_7 (h : a ≤ 10000) : xX E mX2_init 7 [l0, l1] (.int (nI a) :: st) S V Q ↔ xX E mX2_init 10 [l0, l1] (.ref S.2.1 :: st) (xnew S 10 a a) (xrow V S.2.1 (fun _ => 0)) Q := xi_anewarr (show decode cX2_init 7 = .ok (.anewarray 9, 3) by decide +kernel) xkt_2_9 (Or.inl ⟨rfl, rfl⟩) h
theorem pX2_init_10 (h : xkd S a = 3) : xX E mX2_init 10 [l0, l1] (.ref b :: .ref a :: st) S V Q ↔ xX E mX2_init 13 [l0, l1] st (xsetr S a 0 (some b)) V Q := xi_putR (show decode cX2_init 10 = .ok (.putfield 11, 3) by decide +kernel) xft_2_11 (by decide) rfl rfl rfl h
theorem pX2_init_13 : xX E mX2_init 13 [some (.ref a), l1] st S V Q ↔ xX E mX2_init 14 [some (.ref a), l1] (.ref a :: st) S V Q := xi (show decode cX2_init 13 = .ok (.aload_n 0, 1) by decide +kernel) rfl
theorem pX2_init_14 : xX E mX2_init 14 [l0, l1] st S V Q ↔ xX E mX2_init 15 [l0, l1] (.int (nI 4) :: st) S V Q := xi (show decode cX2_init 14 = .ok (.iconst 4, 1) by decide +kernel) rfl
theorem pX2_init_15 (h : a ≤ 10000) : xX E mX2_init 15 [l0, l1] (.int (nI a) :: st) S V Q ↔ xX E mX2_init 17 [l0, l1] (.ref S.2.1 :: st) (xnew S 7 a a) (xrow V S.2.1 (fun _ => 0)) Q := xi_newarr (show decode cX2_init 15 = .ok (.newarray .int, 2) by decide +kernel) (Or.inl ⟨rfl, rfl⟩) h
theorem pX2_init_17 (h : xkd S a = 3) : xX E mX2_init 17 [l0, l1] (.ref b :: .ref a :: st) S V Q ↔ xX E mX2_init 20 [l0, l1] st (xsetr S a 1 (some b)) V Q := xi_putR (show decode cX2_init 17 = .ok (.putfield 17, 3) by decide +kernel) xft_2_17 (by decide) rfl rfl rfl h
theorem pX2_init_20 : xX E mX2_init 20 [some (.ref a), l1] st S V Q ↔ xX E mX2_init 21 [some (.ref a), l1] (.ref a :: st) S V Q := xi (show decode cX2_init 20 = .ok (.aload_n 0, 1) by decide +kernel) rfl
theorem pX2_init_21 : xX E mX2_init 21 [l0, l1] st S V Q ↔ xX E mX2_init 23 [l0, l1] (.int (nI 8) :: st) S V Q := xi (show decode cX2_init 21 = .ok (.bipush 8, 2) by decide +kernel) rfl
theorem pX2_init_23 (h : a ≤ 10000) : xX E mX2_init 23 [l0, l1] (.int (nI a) :: st) S V Q ↔ xX E mX2_init 25 [l0, l1] (.ref S.2.1 :: st) (xnew S 7 a a) (xrow V S.2.1 (fun _ => 0)) Q := xi_newarr (show decode cX2_init 23 = .ok (.newarray .int, 2) by decide +kernel) (Or.inl ⟨rfl, rfl⟩) h
theorem pX2_init_25 (h : xkd S a = 3) : xX E mX2_init 25 [l0, l1] (.ref b :: .ref a :: st) S V Q ↔ xX E mX2_init 28 [l0, l1] st (xsetr S a 2 (some b)) V Q := xi_putR (show decode cX2_init 25 = .ok (.putfield 21, 3) by decide +kernel) xft_2_21 (by decide) rfl rfl rfl h
theorem pX2_init_28 : xX E mX2_init 28 [l0, l1] st S V Q ↔ xX E mX2_init 29 [l0, l1] (.int (nI 0) :: st) S V Q := xi (show decode cX2_init 28 = .ok (.iconst 0, 1) by decide +kernel) rfl
theorem pX2_init_29 (h : xnl l0 = true) : xX E mX2_init 29 [l0, l1] (.int x :: st) S V Q ↔ xX E mX2_init 30 [l0, some (.int x)] st S V Q := xi_st1 (j := 0) (v := .int x) (show decode cX2_init 29 = .ok (.istore_n 1, 1) by decide +kernel) rfl h rfl rfl
theorem pX2_init_30 : xX E mX2_init 30 [l0, some (.int x)] st S V Q ↔ xX E mX2_init 31 [l0, some (.int x)] (.int x :: st) S V Q := xi (show decode cX2_init 30 = .ok (.iload_n 1, 1) by decide +kernel) rfl
theorem pX2_init_31 : xX E mX2_init 31 [l0, l1] st S V Q ↔ xX E mX2_init 33 [l0, l1] (.int (nI 8) :: st) S V Q := xi (show decode cX2_init 31 = .ok (.bipush 8, 2) by decide +kernel) rfl
theorem pX2_init_33 : xX E mX2_init 33 [l0, l1] (.int y :: .int x :: st) S V Q ↔ if y ≤ x then xX E mX2_init 55 [l0, l1] st S V Q else xX E mX2_init 36 [l0, l1] st S V Q := xi_icmp (show decode cX2_init 33 = .ok (.if_icmp .ge 22, 3) by decide +kernel) (by decide) xcb_ge
theorem pX2_init_36 : xX E mX2_init 36 [some (.ref a), l1] st S V Q ↔ xX E mX2_init 37 [some (.ref a), l1] (.ref a :: st) S V Q := xi (show decode cX2_init 36 = .ok (.aload_n 0, 1) by decide +kernel) rfl
theorem pX2_init_37 (h : xkd S a = 3) : xX E mX2_init 37 [l0, l1] (.ref a :: st) S V Q ↔ xX E mX2_init 40 [l0, l1] (va_rf (xrf S a 0) :: st) S V Q := xi_getR (show decode cX2_init 37 = .ok (.getfield 11, 3) by decide +kernel) xft_2_11 rfl h
theorem pX2_init_40 : xX E mX2_init 40 [l0, some (.int x)] st S V Q ↔ xX E mX2_init 41 [l0, some (.int x)] (.int x :: st) S V Q := xi (show decode cX2_init 40 = .ok (.iload_n 1, 1) by decide +kernel) rfl
theorem pX2_init_41 : xX E mX2_init 41 [l0, l1] st S V Q ↔ xX E mX2_init 44 [l0, l1] (.ref S.2.1 :: st) (xnew S 1 0 11) (xrow V S.2.1 (fun _ => 0)) Q := xi_new (show decode cX2_init 41 = .ok (.new 9, 3) by decide +kernel) xkt_2_9
theorem pX2_init_44 : xX E mX2_init 44 [l0, l1] (.ref a :: st) S V Q ↔ xX E mX2_init 45 [l0, l1] (.ref a :: .ref a :: st) S V Q := xi (show decode cX2_init 44 = .ok (.dup, 1) by decide +kernel) rfl
theorem pX2_init_44i : xX E mX2_init 44 [l0, l1] (.int x :: st) S V Q ↔ xX E mX2_init 45 [l0, l1] (.int x :: .int x :: st) S V Q := xi (show decode cX2_init 44 = .ok (.dup, 1) by decide +kernel) rfl
theorem pX2_init_45  (hc : xcat st ≤ 8) : xX E mX2_init 45 [l0, l1] (.ref a :: st) S V Q ↔ xC E mX0_init [.ref a] S V (fun v S V => xX E mX2_init 48 [l0, l1] (v.toList ++ st) S V Q) := xi_callI (as := []) (show decode cX2_init 45 = .ok (.invokespecial 24, 3) by decide +kernel) xct_2_24 (by decide) rfl rfl (by decide) (Nat.le_of_ble_eq_true rfl) hc
theorem pX2_init_48 (h : (xkd S a = 10 ∧ xkd S c = 1) ∨ (xkd S a = 11 ∧ xkd S c = 3)) (hi : b < xln S a) (hn : xln S a < 2147483648) : xX E mX2_init 48 [l0, l1] (.ref c :: .int (nI b) :: .ref a :: st) S V Q ↔ xX E mX2_init 49 [l0, l1] st (xsetr S a b (some c)) V Q := xi_aast (show decode cX2_init 48 = .ok (.aastore, 1) by decide +kernel) h hi hn
theorem pX2_init_49 (h : xnl l0 = true) : xX E mX2_init 49 [l0, some (.int (nI a))] st S V Q ↔ xX E mX2_init 52 [l0, some (.int (nI (a + 1)))] st S V Q := xi_iinc (j := 0) (show decode cX2_init 49 = .ok (.iinc 1 1, 3) by decide +kernel) rfl h rfl (nI_add a 1) (Nat.le_of_ble_eq_true rfl) rfl
theorem pX2_init_52 : xX E mX2_init 52 [l0, l1] st S V Q ↔ xX E mX2_init 30 [l0, l1] st S V Q := xi_goto (show decode cX2_init 52 = .ok (.goto (-22), 3) by decide +kernel) (by decide)
theorem pX2_init_55 : xX E mX2_init 55 [l0, l1] st S V Q ↔ xX E mX2_init 56 [l0, l1] (.int (nI 0) :: st) S V Q := xi (show decode cX2_init 55 = .ok (.iconst 0, 1) by decide +kernel) rfl
theorem pX2_init_56 (h : xnl l0 = true) : xX E mX2_init 56 [l0, l1] (.int x :: st) S V Q ↔ xX E mX2_init 57 [l0, some (.int x)] st S V Q := xi_st1 (j := 0) (v := .int x) (show decode cX2_init 56 = .ok (.istore_n 1, 1) by decide +kernel) rfl h rfl rfl
theorem pX2_init_57 : xX E mX2_init 57 [l0, some (.int x)] st S V Q ↔ xX E mX2_init 58 [l0, some (.int x)] (.int x :: st) S V Q := xi (show decode cX2_init 57 = .ok (.iload_n 1, 1) by decide +kernel) rfl
theorem pX2_init_58 : xX E mX2_init 58 [l0, l1] st S V Q ↔ xX E mX2_init 59 [l0, l1] (.int (nI 4) :: st) S V Q := xi (show decode cX2_init 58 = .ok (.iconst 4, 1) by decide +kernel) rfl
theorem pX2_init_59 : xX E mX2_init 59 [l0, l1] (.int y :: .int x :: st) S V Q ↔ if y ≤ x then xX E mX2_init 76 [l0, l1] st S V Q else xX E mX2_init 62 [l0, l1] st S V Q := xi_icmp (show decode cX2_init 59 = .ok (.if_icmp .ge 17, 3) by decide +kernel) (by decide) xcb_ge
theorem pX2_init_62 : xX E mX2_init 62 [some (.ref a), l1] st S V Q ↔ xX E mX2_init 63 [some (.ref a), l1] (.ref a :: st) S V Q := xi (show decode cX2_init 62 = .ok (.aload_n 0, 1) by decide +kernel) rfl
theorem pX2_init_63 (h : xkd S a = 3) : xX E mX2_init 63 [l0, l1] (.ref a :: st) S V Q ↔ xX E mX2_init 66 [l0, l1] (va_rf (xrf S a 1) :: st) S V Q := xi_getR (show decode cX2_init 63 = .ok (.getfield 17, 3) by decide +kernel) xft_2_17 rfl h
theorem pX2_init_66 : xX E mX2_init 66 [l0, some (.int x)] st S V Q ↔ xX E mX2_init 67 [l0, some (.int x)] (.int x :: st) S V Q := xi (show decode cX2_init 66 = .ok (.iload_n 1, 1) by decide +kernel) rfl
theorem pX2_init_67 : xX E mX2_init 67 [l0, l1] st S V Q ↔ xX E mX2_init 69 [l0, l1] (.int (-6) :: st) S V Q := xi (show decode cX2_init 67 = .ok (.bipush (-6), 2) by decide +kernel) rfl
theorem pX2_init_69 (h : xkd S a = 7) (hi : b < xln S a) (hn : xln S a < 2147483648) : xX E mX2_init 69 [l0, l1] (.int x :: .int (nI b) :: .ref a :: st) S V Q ↔ xX E mX2_init 70 [l0, l1] st S (xup V a b x) Q := xi_iast (show decode cX2_init 69 = .ok (.iastore, 1) by decide +kernel) h hi hn
theorem pX2_init_70 (h : xnl l0 = true) : xX E mX2_init 70 [l0, some (.int (nI a))] st S V Q ↔ xX E mX2_init 73 [l0, some (.int (nI (a + 1)))] st S V Q := xi_iinc (j := 0) (show decode cX2_init 70 = .ok (.iinc 1 1, 3) by decide +kernel) rfl h rfl (nI_add a 1) (Nat.le_of_ble_eq_true rfl) rfl
theorem pX2_init_73 : xX E mX2_init 73 [l0, l1] st S V Q ↔ xX E mX2_init 57 [l0, l1] st S V Q := xi_goto (show decode cX2_init 73 = .ok (.goto (-16), 3) by decide +kernel) (by decide)
theorem pX2_init_76 : xX E mX2_init 76 [l0, l1] [] S V Q ↔ Q none S V := xi_retV (show decode cX2_init 76 = .ok (.return_, 1) by decide +kernel) rfl
-- TurnSlots$Machine.copyFrom(LTurnSlots$Machine;)V
theorem pX2_copyFrom_0 : xX E mX2_copyFrom 0 [l0, l1, l2] st S V Q ↔ xX E mX2_copyFrom 1 [l0, l1, l2] (.int (nI 0) :: st) S V Q := xi (show decode cX2_copyFrom 0 = .ok (.iconst 0, 1) by decide +kernel) rfl
theorem pX2_copyFrom_1 (h : xnl l1 = true) : xX E mX2_copyFrom 1 [l0, l1, l2] (.int x :: st) S V Q ↔ xX E mX2_copyFrom 2 [l0, l1, some (.int x)] st S V Q := xi_st1 (j := 1) (v := .int x) (show decode cX2_copyFrom 1 = .ok (.istore_n 2, 1) by decide +kernel) rfl h rfl rfl
theorem pX2_copyFrom_2 : xX E mX2_copyFrom 2 [l0, l1, some (.int x)] st S V Q ↔ xX E mX2_copyFrom 3 [l0, l1, some (.int x)] (.int x :: st) S V Q := xi (show decode cX2_copyFrom 2 = .ok (.iload_n 2, 1) by decide +kernel) rfl
theorem pX2_copyFrom_3 : xX E mX2_copyFrom 3 [l0, l1, l2] st S V Q ↔ xX E mX2_copyFrom 5 [l0, l1, l2] (.int (nI 8) :: st) S V Q := xi (show decode cX2_copyFrom 3 = .ok (.bipush 8, 2) by decide +kernel) rfl
theorem pX2_copyFrom_5 : xX E mX2_copyFrom 5 [l0, l1, l2] (.int y :: .int x :: st) S V Q ↔ if y ≤ x then xX E mX2_copyFrom 29 [l0, l1, l2] st S V Q else xX E mX2_copyFrom 8 [l0, l1, l2] st S V Q := xi_icmp (show decode cX2_copyFrom 5 = .ok (.if_icmp .ge 24, 3) by decide +kernel) (by decide) xcb_ge
theorem pX2_copyFrom_8 : xX E mX2_copyFrom 8 [some (.ref a), l1, l2] st S V Q ↔ xX E mX2_copyFrom 9 [some (.ref a), l1, l2] (.ref a :: st) S V Q := xi (show decode cX2_copyFrom 8 = .ok (.aload_n 0, 1) by decide +kernel) rfl
theorem pX2_copyFrom_9 (h : xkd S a = 3) : xX E mX2_copyFrom 9 [l0, l1, l2] (.ref a :: st) S V Q ↔ xX E mX2_copyFrom 12 [l0, l1, l2] (va_rf (xrf S a 0) :: st) S V Q := xi_getR (show decode cX2_copyFrom 9 = .ok (.getfield 11, 3) by decide +kernel) xft_2_11 rfl h
theorem pX2_copyFrom_12 : xX E mX2_copyFrom 12 [l0, l1, some (.int x)] st S V Q ↔ xX E mX2_copyFrom 13 [l0, l1, some (.int x)] (.int x :: st) S V Q := xi (show decode cX2_copyFrom 12 = .ok (.iload_n 2, 1) by decide +kernel) rfl
theorem pX2_copyFrom_13 (h : xkd S a = 10 ∨ xkd S a = 11) (hi : b < xln S a) (hn : xln S a < 2147483648) : xX E mX2_copyFrom 13 [l0, l1, l2] (.int (nI b) :: .ref a :: st) S V Q ↔ xX E mX2_copyFrom 14 [l0, l1, l2] (va_rf (xrf S a b) :: st) S V Q := xi_aald (show decode cX2_copyFrom 13 = .ok (.aaload, 1) by decide +kernel) h hi hn
theorem pX2_copyFrom_14 : xX E mX2_copyFrom 14 [l0, some (.ref a), l2] st S V Q ↔ xX E mX2_copyFrom 15 [l0, some (.ref a), l2] (.ref a :: st) S V Q := xi (show decode cX2_copyFrom 14 = .ok (.aload_n 1, 1) by decide +kernel) rfl
theorem pX2_copyFrom_15 (h : xkd S a = 3) : xX E mX2_copyFrom 15 [l0, l1, l2] (.ref a :: st) S V Q ↔ xX E mX2_copyFrom 18 [l0, l1, l2] (va_rf (xrf S a 0) :: st) S V Q := xi_getR (show decode cX2_copyFrom 15 = .ok (.getfield 11, 3) by decide +kernel) xft_2_11 rfl h
theorem pX2_copyFrom_18 : xX E mX2_copyFrom 18 [l0, l1, some (.int x)] st S V Q ↔ xX E mX2_copyFrom 19 [l0, l1, some (.int x)] (.int x :: st) S V Q := xi (show decode cX2_copyFrom 18 = .ok (.iload_n 2, 1) by decide +kernel) rfl
theorem pX2_copyFrom_19 (h : xkd S a = 10 ∨ xkd S a = 11) (hi : b < xln S a) (hn : xln S a < 2147483648) : xX E mX2_copyFrom 19 [l0, l1, l2] (.int (nI b) :: .ref a :: st) S V Q ↔ xX E mX2_copyFrom 20 [l0, l1, l2] (va_rf (xrf S a b) :: st) S V Q := xi_aald (show decode cX2_copyFrom 19 = .ok (.aaload, 1) by decide +kernel) h hi hn
theorem pX2_copyFrom_20 {a1 : Nat} (h : xkd S a = 1) (hc : xcat st ≤ 8) : xX E mX2_copyFrom 20 [l0, l1, l2] (.ref a1 :: .ref a :: st) S V Q ↔ xC E mX0_copyFrom [.ref a, .ref a1] S V (fun v S V => xX E mX2_copyFrom 23 [l0, l1, l2] (v.toList ++ st) S V Q) := xi_callV (as := [.ref a1]) (show decode cX2_copyFrom 20 = .ok (.invokevirtual 25, 3) by decide +kernel) xct_2_25 rfl rfl (by decide) (Nat.le_of_ble_eq_true rfl) rfl h hc
theorem pX2_copyFrom_23 (h : xnl l1 = true) : xX E mX2_copyFrom 23 [l0, l1, some (.int (nI a))] st S V Q ↔ xX E mX2_copyFrom 26 [l0, l1, some (.int (nI (a + 1)))] st S V Q := xi_iinc (j := 1) (show decode cX2_copyFrom 23 = .ok (.iinc 2 1, 3) by decide +kernel) rfl h rfl (nI_add a 1) (Nat.le_of_ble_eq_true rfl) rfl
theorem pX2_copyFrom_26 : xX E mX2_copyFrom 26 [l0, l1, l2] st S V Q ↔ xX E mX2_copyFrom 2 [l0, l1, l2] st S V Q := xi_goto (show decode cX2_copyFrom 26 = .ok (.goto (-24), 3) by decide +kernel) (by decide)
theorem pX2_copyFrom_29 : xX E mX2_copyFrom 29 [l0, some (.ref a), l2] st S V Q ↔ xX E mX2_copyFrom 30 [l0, some (.ref a), l2] (.ref a :: st) S V Q := xi (show decode cX2_copyFrom 29 = .ok (.aload_n 1, 1) by decide +kernel) rfl
theorem pX2_copyFrom_30 (h : xkd S a = 3) : xX E mX2_copyFrom 30 [l0, l1, l2] (.ref a :: st) S V Q ↔ xX E mX2_copyFrom 33 [l0, l1, l2] (va_rf (xrf S a 1) :: st) S V Q := xi_getR (show decode cX2_copyFrom 30 = .ok (.getfield 17, 3) by decide +kernel) xft_2_17 rfl h
theorem pX2_copyFrom_33 : xX E mX2_copyFrom 33 [l0, l1, l2] st S V Q ↔ xX E mX2_copyFrom 34 [l0, l1, l2] (.int (nI 0) :: st) S V Q := xi (show decode cX2_copyFrom 33 = .ok (.iconst 0, 1) by decide +kernel) rfl
theorem pX2_copyFrom_34 : xX E mX2_copyFrom 34 [some (.ref a), l1, l2] st S V Q ↔ xX E mX2_copyFrom 35 [some (.ref a), l1, l2] (.ref a :: st) S V Q := xi (show decode cX2_copyFrom 34 = .ok (.aload_n 0, 1) by decide +kernel) rfl
theorem pX2_copyFrom_35 (h : xkd S a = 3) : xX E mX2_copyFrom 35 [l0, l1, l2] (.ref a :: st) S V Q ↔ xX E mX2_copyFrom 38 [l0, l1, l2] (va_rf (xrf S a 1) :: st) S V Q := xi_getR (show decode cX2_copyFrom 35 = .ok (.getfield 17, 3) by decide +kernel) xft_2_17 rfl h
theorem pX2_copyFrom_38 : xX E mX2_copyFrom 38 [l0, l1, l2] st S V Q ↔ xX E mX2_copyFrom 39 [l0, l1, l2] (.int (nI 0) :: st) S V Q := xi (show decode cX2_copyFrom 38 = .ok (.iconst 0, 1) by decide +kernel) rfl
theorem pX2_copyFrom_39 : xX E mX2_copyFrom 39 [l0, l1, l2] st S V Q ↔ xX E mX2_copyFrom 40 [l0, l1, l2] (.int (nI 4) :: st) S V Q := xi (show decode cX2_copyFrom 39 = .ok (.iconst 4, 1) by decide +kernel) rfl
theorem pX2_copyFrom_40 (h0 : xkd S b = 7) (h1 : xkd S a = 7) (h4 : d + c ≤ xln S b) (h5 : e + c ≤ xln S a) (b0 : xln S b < 2147483648) (b1 : xln S a < 2147483648) (hc : xcat st ≤ 8) : xX E mX2_copyFrom 40 [l0, l1, l2] (.int (nI c) :: .int (nI e) :: .ref a :: .int (nI d) :: .ref b :: st) S V Q ↔ xX E mX2_copyFrom 43 [l0, l1, l2] st S (xrow V a (va_cpy (V b) (V a) d e c)) Q := xi_copy (show decode cX2_copyFrom 40 = .ok (.invokestatic 29, 3) by decide +kernel) xcn_2_29 xmn_2_29 (by decide) (by decide) h0 h1 h4 h5 b0 b1 hc
theorem pX2_copyFrom_43 : xX E mX2_copyFrom 43 [some (.ref a), l1, l2] st S V Q ↔ xX E mX2_copyFrom 44 [some (.ref a), l1, l2] (.ref a :: st) S V Q := xi (show decode cX2_copyFrom 43 = .ok (.aload_n 0, 1) by decide +kernel) rfl
theorem pX2_copyFrom_44 : xX E mX2_copyFrom 44 [l0, some (.ref a), l2] st S V Q ↔ xX E mX2_copyFrom 45 [l0, some (.ref a), l2] (.ref a :: st) S V Q := xi (show decode cX2_copyFrom 44 = .ok (.aload_n 1, 1) by decide +kernel) rfl
theorem pX2_copyFrom_45 (h : xkd S a = 3) : xX E mX2_copyFrom 45 [l0, l1, l2] (.ref a :: st) S V Q ↔ xX E mX2_copyFrom 48 [l0, l1, l2] (.int (V a 3) :: st) S V Q := xi_getI (show decode cX2_copyFrom 45 = .ok (.getfield 35, 3) by decide +kernel) xft_2_35 rfl h
theorem pX2_copyFrom_48 (h : xkd S a = 3) : xX E mX2_copyFrom 48 [l0, l1, l2] (.int x :: .ref a :: st) S V Q ↔ xX E mX2_copyFrom 51 [l0, l1, l2] st S (xup V a 3 x) Q := xi_putI (show decode cX2_copyFrom 48 = .ok (.putfield 35, 3) by decide +kernel) xft_2_35 (by decide) rfl rfl h
theorem pX2_copyFrom_51 : xX E mX2_copyFrom 51 [some (.ref a), l1, l2] st S V Q ↔ xX E mX2_copyFrom 52 [some (.ref a), l1, l2] (.ref a :: st) S V Q := xi (show decode cX2_copyFrom 51 = .ok (.aload_n 0, 1) by decide +kernel) rfl
theorem pX2_copyFrom_52 : xX E mX2_copyFrom 52 [l0, some (.ref a), l2] st S V Q ↔ xX E mX2_copyFrom 53 [l0, some (.ref a), l2] (.ref a :: st) S V Q := xi (show decode cX2_copyFrom 52 = .ok (.aload_n 1, 1) by decide +kernel) rfl
theorem pX2_copyFrom_53 (h : xkd S a = 3) : xX E mX2_copyFrom 53 [l0, l1, l2] (.ref a :: st) S V Q ↔ xX E mX2_copyFrom 56 [l0, l1, l2] (.int (V a 4) :: st) S V Q := xi_getI (show decode cX2_copyFrom 53 = .ok (.getfield 39, 3) by decide +kernel) xft_2_39 rfl h
theorem pX2_copyFrom_56 (h : xkd S a = 3) : xX E mX2_copyFrom 56 [l0, l1, l2] (.int x :: .ref a :: st) S V Q ↔ xX E mX2_copyFrom 59 [l0, l1, l2] st S (xup V a 4 x) Q := xi_putI (show decode cX2_copyFrom 56 = .ok (.putfield 39, 3) by decide +kernel) xft_2_39 (by decide) rfl rfl h
theorem pX2_copyFrom_59 : xX E mX2_copyFrom 59 [some (.ref a), l1, l2] st S V Q ↔ xX E mX2_copyFrom 60 [some (.ref a), l1, l2] (.ref a :: st) S V Q := xi (show decode cX2_copyFrom 59 = .ok (.aload_n 0, 1) by decide +kernel) rfl
theorem pX2_copyFrom_60 : xX E mX2_copyFrom 60 [l0, some (.ref a), l2] st S V Q ↔ xX E mX2_copyFrom 61 [l0, some (.ref a), l2] (.ref a :: st) S V Q := xi (show decode cX2_copyFrom 60 = .ok (.aload_n 1, 1) by decide +kernel) rfl
theorem pX2_copyFrom_61 (h : xkd S a = 3) : xX E mX2_copyFrom 61 [l0, l1, l2] (.ref a :: st) S V Q ↔ xX E mX2_copyFrom 64 [l0, l1, l2] (.int (V a 5) :: st) S V Q := xi_getI (show decode cX2_copyFrom 61 = .ok (.getfield 42, 3) by decide +kernel) xft_2_42 rfl h
theorem pX2_copyFrom_64 (h : xkd S a = 3) : xX E mX2_copyFrom 64 [l0, l1, l2] (.int x :: .ref a :: st) S V Q ↔ xX E mX2_copyFrom 67 [l0, l1, l2] st S (xup V a 5 x) Q := xi_putI (show decode cX2_copyFrom 64 = .ok (.putfield 42, 3) by decide +kernel) xft_2_42 (by decide) rfl rfl h
theorem pX2_copyFrom_67 : xX E mX2_copyFrom 67 [l0, l1, l2] [] S V Q ↔ Q none S V := xi_retV (show decode cX2_copyFrom 67 = .ok (.return_, 1) by decide +kernel) rfl
-- TurnSlots$Machine.findAllWaits()[I
theorem pX2_findAllWaits_0 : xX E mX2_findAllWaits 0 [l0, l1, l2] st S V Q ↔ xX E mX2_findAllWaits 1 [l0, l1, l2] (.int (nI 0) :: st) S V Q := xi (show decode cX2_findAllWaits 0 = .ok (.iconst 0, 1) by decide +kernel) rfl
theorem pX2_findAllWaits_1 (h : xnl l0 = true) : xX E mX2_findAllWaits 1 [l0, l1, l2] (.int x :: st) S V Q ↔ xX E mX2_findAllWaits 2 [l0, some (.int x), l2] st S V Q := xi_st1 (j := 0) (v := .int x) (show decode cX2_findAllWaits 1 = .ok (.istore_n 1, 1) by decide +kernel) rfl h rfl rfl
theorem pX2_findAllWaits_2 : xX E mX2_findAllWaits 2 [l0, some (.int x), l2] st S V Q ↔ xX E mX2_findAllWaits 3 [l0, some (.int x), l2] (.int x :: st) S V Q := xi (show decode cX2_findAllWaits 2 = .ok (.iload_n 1, 1) by decide +kernel) rfl
theorem pX2_findAllWaits_3 : xX E mX2_findAllWaits 3 [l0, l1, l2] st S V Q ↔ xX E mX2_findAllWaits 5 [l0, l1, l2] (.int (nI 8) :: st) S V Q := xi (show decode cX2_findAllWaits 3 = .ok (.bipush 8, 2) by decide +kernel) rfl
theorem pX2_findAllWaits_5 : xX E mX2_findAllWaits 5 [l0, l1, l2] (.int y :: .int x :: st) S V Q ↔ if y ≤ x then xX E mX2_findAllWaits 25 [l0, l1, l2] st S V Q else xX E mX2_findAllWaits 8 [l0, l1, l2] st S V Q := xi_icmp (show decode cX2_findAllWaits 5 = .ok (.if_icmp .ge 20, 3) by decide +kernel) (by decide) xcb_ge
theorem pX2_findAllWaits_8 : xX E mX2_findAllWaits 8 [some (.ref a), l1, l2] st S V Q ↔ xX E mX2_findAllWaits 9 [some (.ref a), l1, l2] (.ref a :: st) S V Q := xi (show decode cX2_findAllWaits 8 = .ok (.aload_n 0, 1) by decide +kernel) rfl
theorem pX2_findAllWaits_9 (h : xkd S a = 3) : xX E mX2_findAllWaits 9 [l0, l1, l2] (.ref a :: st) S V Q ↔ xX E mX2_findAllWaits 12 [l0, l1, l2] (va_rf (xrf S a 2) :: st) S V Q := xi_getR (show decode cX2_findAllWaits 9 = .ok (.getfield 21, 3) by decide +kernel) xft_2_21 rfl h
theorem pX2_findAllWaits_12 : xX E mX2_findAllWaits 12 [l0, some (.int x), l2] st S V Q ↔ xX E mX2_findAllWaits 13 [l0, some (.int x), l2] (.int x :: st) S V Q := xi (show decode cX2_findAllWaits 12 = .ok (.iload_n 1, 1) by decide +kernel) rfl
theorem pX2_findAllWaits_13 : xX E mX2_findAllWaits 13 [some (.ref a), l1, l2] st S V Q ↔ xX E mX2_findAllWaits 14 [some (.ref a), l1, l2] (.ref a :: st) S V Q := xi (show decode cX2_findAllWaits 13 = .ok (.aload_n 0, 1) by decide +kernel) rfl
theorem pX2_findAllWaits_14 : xX E mX2_findAllWaits 14 [l0, some (.int x), l2] st S V Q ↔ xX E mX2_findAllWaits 15 [l0, some (.int x), l2] (.int x :: st) S V Q := xi (show decode cX2_findAllWaits 14 = .ok (.iload_n 1, 1) by decide +kernel) rfl
theorem pX2_findAllWaits_15 {x0 : Int32} (h : xkd S a = 3) (hc : xcat st ≤ 8) : xX E mX2_findAllWaits 15 [l0, l1, l2] (.int x0 :: .ref a :: st) S V Q ↔ xC E mX2_waitsOf [.ref a, .int x0] S V (fun v S V => xX E mX2_findAllWaits 18 [l0, l1, l2] (v.toList ++ st) S V Q) := xi_callV (as := [.int x0]) (show decode cX2_findAllWaits 15 = .ok (.invokevirtual 74, 3) by decide +kernel) xct_2_74 rfl rfl (by decide) (Nat.le_of_ble_eq_true rfl) rfl h hc
theorem pX2_findAllWaits_18 (h : xkd S a = 7) (hi : b < xln S a) (hn : xln S a < 2147483648) : xX E mX2_findAllWaits 18 [l0, l1, l2] (.int x :: .int (nI b) :: .ref a :: st) S V Q ↔ xX E mX2_findAllWaits 19 [l0, l1, l2] st S (xup V a b x) Q := xi_iast (show decode cX2_findAllWaits 18 = .ok (.iastore, 1) by decide +kernel) h hi hn
theorem pX2_findAllWaits_19 (h : xnl l0 = true) : xX E mX2_findAllWaits 19 [l0, some (.int (nI a)), l2] st S V Q ↔ xX E mX2_findAllWaits 22 [l0, some (.int (nI (a + 1))), l2] st S V Q := xi_iinc (j := 0) (show decode cX2_findAllWaits 19 = .ok (.iinc 1 1, 3) by decide +kernel) rfl h rfl (nI_add a 1) (Nat.le_of_ble_eq_true rfl) rfl
theorem pX2_findAllWaits_22 : xX E mX2_findAllWaits 22 [l0, l1, l2] st S V Q ↔ xX E mX2_findAllWaits 2 [l0, l1, l2] st S V Q := xi_goto (show decode cX2_findAllWaits 22 = .ok (.goto (-20), 3) by decide +kernel) (by decide)
theorem pX2_findAllWaits_25 : xX E mX2_findAllWaits 25 [l0, l1, l2] st S V Q ↔ xX E mX2_findAllWaits 26 [l0, l1, l2] (.int (nI 0) :: st) S V Q := xi (show decode cX2_findAllWaits 25 = .ok (.iconst 0, 1) by decide +kernel) rfl
theorem pX2_findAllWaits_26 (h : xnl l0 = true) : xX E mX2_findAllWaits 26 [l0, l1, l2] (.int x :: st) S V Q ↔ xX E mX2_findAllWaits 27 [l0, some (.int x), l2] st S V Q := xi_st1 (j := 0) (v := .int x) (show decode cX2_findAllWaits 26 = .ok (.istore_n 1, 1) by decide +kernel) rfl h rfl rfl
theorem pX2_findAllWaits_27 : xX E mX2_findAllWaits 27 [l0, some (.int x), l2] st S V Q ↔ xX E mX2_findAllWaits 28 [l0, some (.int x), l2] (.int x :: st) S V Q := xi (show decode cX2_findAllWaits 27 = .ok (.iload_n 1, 1) by decide +kernel) rfl
theorem pX2_findAllWaits_28 : xX E mX2_findAllWaits 28 [l0, l1, l2] st S V Q ↔ xX E mX2_findAllWaits 30 [l0, l1, l2] (.int (nI 8) :: st) S V Q := xi (show decode cX2_findAllWaits 28 = .ok (.bipush 8, 2) by decide +kernel) rfl
theorem pX2_findAllWaits_30 : xX E mX2_findAllWaits 30 [l0, l1, l2] (.int y :: .int x :: st) S V Q ↔ if y ≤ x then xX E mX2_findAllWaits 81 [l0, l1, l2] st S V Q else xX E mX2_findAllWaits 33 [l0, l1, l2] st S V Q := xi_icmp (show decode cX2_findAllWaits 30 = .ok (.if_icmp .ge 51, 3) by decide +kernel) (by decide) xcb_ge
theorem pX2_findAllWaits_33 : xX E mX2_findAllWaits 33 [l0, l1, l2] st S V Q ↔ xX E mX2_findAllWaits 34 [l0, l1, l2] (.int (nI 0) :: st) S V Q := xi (show decode cX2_findAllWaits 33 = .ok (.iconst 0, 1) by decide +kernel) rfl
theorem pX2_findAllWaits_34 (h : xnl l1 = true) : xX E mX2_findAllWaits 34 [l0, l1, l2] (.int x :: st) S V Q ↔ xX E mX2_findAllWaits 35 [l0, l1, some (.int x)] st S V Q := xi_st1 (j := 1) (v := .int x) (show decode cX2_findAllWaits 34 = .ok (.istore_n 2, 1) by decide +kernel) rfl h rfl rfl
theorem pX2_findAllWaits_35 : xX E mX2_findAllWaits 35 [l0, l1, some (.int x)] st S V Q ↔ xX E mX2_findAllWaits 36 [l0, l1, some (.int x)] (.int x :: st) S V Q := xi (show decode cX2_findAllWaits 35 = .ok (.iload_n 2, 1) by decide +kernel) rfl
theorem pX2_findAllWaits_36 : xX E mX2_findAllWaits 36 [l0, l1, l2] st S V Q ↔ xX E mX2_findAllWaits 38 [l0, l1, l2] (.int (nI 8) :: st) S V Q := xi (show decode cX2_findAllWaits 36 = .ok (.bipush 8, 2) by decide +kernel) rfl
theorem pX2_findAllWaits_38 : xX E mX2_findAllWaits 38 [l0, l1, l2] (.int y :: .int x :: st) S V Q ↔ if y ≤ x then xX E mX2_findAllWaits 75 [l0, l1, l2] st S V Q else xX E mX2_findAllWaits 41 [l0, l1, l2] st S V Q := xi_icmp (show decode cX2_findAllWaits 38 = .ok (.if_icmp .ge 37, 3) by decide +kernel) (by decide) xcb_ge
theorem pX2_findAllWaits_41 : xX E mX2_findAllWaits 41 [some (.ref a), l1, l2] st S V Q ↔ xX E mX2_findAllWaits 42 [some (.ref a), l1, l2] (.ref a :: st) S V Q := xi (show decode cX2_findAllWaits 41 = .ok (.aload_n 0, 1) by decide +kernel) rfl
theorem pX2_findAllWaits_42 (h : xkd S a = 3) : xX E mX2_findAllWaits 42 [l0, l1, l2] (.ref a :: st) S V Q ↔ xX E mX2_findAllWaits 45 [l0, l1, l2] (va_rf (xrf S a 2) :: st) S V Q := xi_getR (show decode cX2_findAllWaits 42 = .ok (.getfield 21, 3) by decide +kernel) xft_2_21 rfl h
theorem pX2_findAllWaits_45 : xX E mX2_findAllWaits 45 [l0, l1, some (.int x)] st S V Q ↔ xX E mX2_findAllWaits 46 [l0, l1, some (.int x)] (.int x :: st) S V Q := xi (show decode cX2_findAllWaits 45 = .ok (.iload_n 2, 1) by decide +kernel) rfl
theorem pX2_findAllWaits_46 (h : xkd S a = 7 ∨ xkd S a = 14) (hi : b < xln S a) (hn : xln S a < 2147483648) : xX E mX2_findAllWaits 46 [l0, l1, l2] (.int (nI b) :: .ref a :: st) S V Q ↔ xX E mX2_findAllWaits 47 [l0, l1, l2] (.int (V a b) :: st) S V Q := xi_iald (show decode cX2_findAllWaits 46 = .ok (.iaload, 1) by decide +kernel) h hi hn
theorem pX2_findAllWaits_47 : xX E mX2_findAllWaits 47 [l0, some (.int x), l2] st S V Q ↔ xX E mX2_findAllWaits 48 [l0, some (.int x), l2] (.int x :: st) S V Q := xi (show decode cX2_findAllWaits 47 = .ok (.iload_n 1, 1) by decide +kernel) rfl
theorem pX2_findAllWaits_48 {x0 : Int32} {x1 : Int32} (hc : xcat st ≤ 8) : xX E mX2_findAllWaits 48 [l0, l1, l2] (.int x1 :: .int x0 :: st) S V Q ↔ xC E mX4_has [.int x0, .int x1] S V (fun v S V => xX E mX2_findAllWaits 51 [l0, l1, l2] (v.toList ++ st) S V Q) := xi_callS (as := [.int x0, .int x1]) (show decode cX2_findAllWaits 48 = .ok (.invokestatic 67, 3) by decide +kernel) xct_2_67 (by decide) rfl rfl (by decide) (Nat.le_of_ble_eq_true rfl) hc
theorem pX2_findAllWaits_51 : xX E mX2_findAllWaits 51 [l0, l1, l2] (.int x :: st) S V Q ↔ if x = nI 0 then xX E mX2_findAllWaits 69 [l0, l1, l2] st S V Q else xX E mX2_findAllWaits 54 [l0, l1, l2] st S V Q := xi_if (show decode cX2_findAllWaits 51 = .ok (.ifCond .eq 18, 3) by decide +kernel) (by decide) xcb_eq
theorem pX2_findAllWaits_54 : xX E mX2_findAllWaits 54 [some (.ref a), l1, l2] st S V Q ↔ xX E mX2_findAllWaits 55 [some (.ref a), l1, l2] (.ref a :: st) S V Q := xi (show decode cX2_findAllWaits 54 = .ok (.aload_n 0, 1) by decide +kernel) rfl
theorem pX2_findAllWaits_55 (h : xkd S a = 3) : xX E mX2_findAllWaits 55 [l0, l1, l2] (.ref a :: st) S V Q ↔ xX E mX2_findAllWaits 58 [l0, l1, l2] (va_rf (xrf S a 2) :: st) S V Q := xi_getR (show decode cX2_findAllWaits 55 = .ok (.getfield 21, 3) by decide +kernel) xft_2_21 rfl h
theorem pX2_findAllWaits_58 : xX E mX2_findAllWaits 58 [l0, l1, some (.int x)] st S V Q ↔ xX E mX2_findAllWaits 59 [l0, l1, some (.int x)] (.int x :: st) S V Q := xi (show decode cX2_findAllWaits 58 = .ok (.iload_n 2, 1) by decide +kernel) rfl
theorem pX2_findAllWaits_59 : xX E mX2_findAllWaits 59 [l0, l1, l2] (.int x :: .ref a :: st) S V Q ↔ xX E mX2_findAllWaits 60 [l0, l1, l2] (.int x :: .ref a :: .int x :: .ref a :: st) S V Q := xi (show decode cX2_findAllWaits 59 = .ok (.dup2, 1) by decide +kernel) rfl
theorem pX2_findAllWaits_60 (h : xkd S a = 7 ∨ xkd S a = 14) (hi : b < xln S a) (hn : xln S a < 2147483648) : xX E mX2_findAllWaits 60 [l0, l1, l2] (.int (nI b) :: .ref a :: st) S V Q ↔ xX E mX2_findAllWaits 61 [l0, l1, l2] (.int (V a b) :: st) S V Q := xi_iald (show decode cX2_findAllWaits 60 = .ok (.iaload, 1) by decide +kernel) h hi hn
theorem pX2_findAllWaits_61 : xX E mX2_findAllWaits 61 [some (.ref a), l1, l2] st S V Q ↔ xX E mX2_findAllWaits 62 [some (.ref a), l1, l2] (.ref a :: st) S V Q := xi (show decode cX2_findAllWaits 61 = .ok (.aload_n 0, 1) by decide +kernel) rfl
theorem pX2_findAllWaits_62 (h : xkd S a = 3) : xX E mX2_findAllWaits 62 [l0, l1, l2] (.ref a :: st) S V Q ↔ xX E mX2_findAllWaits 65 [l0, l1, l2] (va_rf (xrf S a 2) :: st) S V Q := xi_getR (show decode cX2_findAllWaits 62 = .ok (.getfield 21, 3) by decide +kernel) xft_2_21 rfl h
theorem pX2_findAllWaits_65 : xX E mX2_findAllWaits 65 [l0, some (.int x), l2] st S V Q ↔ xX E mX2_findAllWaits 66 [l0, some (.int x), l2] (.int x :: st) S V Q := xi (show decode cX2_findAllWaits 65 = .ok (.iload_n 1, 1) by decide +kernel) rfl
theorem pX2_findAllWaits_66 (h : xkd S a = 7 ∨ xkd S a = 14) (hi : b < xln S a) (hn : xln S a < 2147483648) : xX E mX2_findAllWaits 66 [l0, l1, l2] (.int (nI b) :: .ref a :: st) S V Q ↔ xX E mX2_findAllWaits 67 [l0, l1, l2] (.int (V a b) :: st) S V Q := xi_iald (show decode cX2_findAllWaits 66 = .ok (.iaload, 1) by decide +kernel) h hi hn
theorem pX2_findAllWaits_67 : xX E mX2_findAllWaits 67 [l0, l1, l2] (.int y :: .int x :: st) S V Q ↔ xX E mX2_findAllWaits 68 [l0, l1, l2] (.int (x ||| y) :: st) S V Q := xi (show decode cX2_findAllWaits 67 = .ok (.ior, 1) by decide +kernel) rfl
theorem pX2_findAllWaits_68 (h : xkd S a = 7) (hi : b < xln S a) (hn : xln S a < 2147483648) : xX E mX2_findAllWaits 68 [l0, l1, l2] (.int x :: .int (nI b) :: .ref a :: st) S V Q ↔ xX E mX2_findAllWaits 69 [l0, l1, l2] st S (xup V a b x) Q := xi_iast (show decode cX2_findAllWaits 68 = .ok (.iastore, 1) by decide +kernel) h hi hn
theorem pX2_findAllWaits_69 (h : xnl l1 = true) : xX E mX2_findAllWaits 69 [l0, l1, some (.int (nI a))] st S V Q ↔ xX E mX2_findAllWaits 72 [l0, l1, some (.int (nI (a + 1)))] st S V Q := xi_iinc (j := 1) (show decode cX2_findAllWaits 69 = .ok (.iinc 2 1, 3) by decide +kernel) rfl h rfl (nI_add a 1) (Nat.le_of_ble_eq_true rfl) rfl
theorem pX2_findAllWaits_72 : xX E mX2_findAllWaits 72 [l0, l1, l2] st S V Q ↔ xX E mX2_findAllWaits 35 [l0, l1, l2] st S V Q := xi_goto (show decode cX2_findAllWaits 72 = .ok (.goto (-37), 3) by decide +kernel) (by decide)
theorem pX2_findAllWaits_75 (h : xnl l0 = true) : xX E mX2_findAllWaits 75 [l0, some (.int (nI a)), l2] st S V Q ↔ xX E mX2_findAllWaits 78 [l0, some (.int (nI (a + 1))), l2] st S V Q := xi_iinc (j := 0) (show decode cX2_findAllWaits 75 = .ok (.iinc 1 1, 3) by decide +kernel) rfl h rfl (nI_add a 1) (Nat.le_of_ble_eq_true rfl) rfl
theorem pX2_findAllWaits_78 : xX E mX2_findAllWaits 78 [l0, l1, l2] st S V Q ↔ xX E mX2_findAllWaits 27 [l0, l1, l2] st S V Q := xi_goto (show decode cX2_findAllWaits 78 = .ok (.goto (-51), 3) by decide +kernel) (by decide)
theorem pX2_findAllWaits_81 : xX E mX2_findAllWaits 81 [some (.ref a), l1, l2] st S V Q ↔ xX E mX2_findAllWaits 82 [some (.ref a), l1, l2] (.ref a :: st) S V Q := xi (show decode cX2_findAllWaits 81 = .ok (.aload_n 0, 1) by decide +kernel) rfl
theorem pX2_findAllWaits_82 (h : xkd S a = 3) : xX E mX2_findAllWaits 82 [l0, l1, l2] (.ref a :: st) S V Q ↔ xX E mX2_findAllWaits 85 [l0, l1, l2] (va_rf (xrf S a 2) :: st) S V Q := xi_getR (show decode cX2_findAllWaits 82 = .ok (.getfield 21, 3) by decide +kernel) xft_2_21 rfl h
theorem pX2_findAllWaits_85 : xX E mX2_findAllWaits 85 [l0, l1, l2] [.ref a] S V Q ↔ Q (some (.ref a)) S V := xi_retA (show decode cX2_findAllWaits 85 = .ok (.areturn, 1) by decide +kernel) (Or.inr ⟨_, rfl⟩)
-- TurnSlots$Machine.runNextOf(I)V
theorem pX2_runNextOf_0 : xX E mX2_runNextOf 0 [some (.ref a), l1, l2, l3, l4] st S V Q ↔ xX E mX2_runNextOf 1 [some (.ref a), l1, l2, l3, l4] (.ref a :: st) S V Q := xi (show decode cX2_runNextOf 0 = .ok (.aload_n 0, 1) by decide +kernel) rfl
theorem pX2_runNextOf_1 (h : xkd S a = 3) : xX E mX2_runNextOf 1 [l0, l1, l2, l3, l4] (.ref a :: st) S V Q ↔ xX E mX2_runNextOf 4 [l0, l1, l2, l3, l4] (va_rf (xrf S a 0) :: st) S V Q := xi_getR (show decode cX2_runNextOf 1 = .ok (.getfield 11, 3) by decide +kernel) xft_2_11 rfl h
theorem pX2_runNextOf_4 : xX E mX2_runNextOf 4 [l0, some (.int x), l2, l3, l4] st S V Q ↔ xX E mX2_runNextOf 5 [l0, some (.int x), l2, l3, l4] (.int x :: st) S V Q := xi (show decode cX2_runNextOf 4 = .ok (.iload_n 1, 1) by decide +kernel) rfl
theorem pX2_runNextOf_5 (h : xkd S a = 10 ∨ xkd S a = 11) (hi : b < xln S a) (hn : xln S a < 2147483648) : xX E mX2_runNextOf 5 [l0, l1, l2, l3, l4] (.int (nI b) :: .ref a :: st) S V Q ↔ xX E mX2_runNextOf 6 [l0, l1, l2, l3, l4] (va_rf (xrf S a b) :: st) S V Q := xi_aald (show decode cX2_runNextOf 5 = .ok (.aaload, 1) by decide +kernel) h hi hn
theorem pX2_runNextOf_6 (h : xnl l1 = true) : xX E mX2_runNextOf 6 [l0, l1, l2, l3, l4] (.ref a :: st) S V Q ↔ xX E mX2_runNextOf 7 [l0, l1, some (.ref a), l3, l4] st S V Q := xi_st1 (j := 1) (v := .ref a) (show decode cX2_runNextOf 6 = .ok (.astore_n 2, 1) by decide +kernel) rfl h rfl rfl
theorem pX2_runNextOf_7 : xX E mX2_runNextOf 7 [l0, l1, some (.ref a), l3, l4] st S V Q ↔ xX E mX2_runNextOf 8 [l0, l1, some (.ref a), l3, l4] (.ref a :: st) S V Q := xi (show decode cX2_runNextOf 7 = .ok (.aload_n 2, 1) by decide +kernel) rfl
theorem pX2_runNextOf_8 (h : xkd S a = 1) : xX E mX2_runNextOf 8 [l0, l1, l2, l3, l4] (.ref a :: st) S V Q ↔ xX E mX2_runNextOf 11 [l0, l1, l2, l3, l4] (va_rf (xrf S a 0) :: st) S V Q := xi_getR (show decode cX2_runNextOf 8 = .ok (.getfield 57, 3) by decide +kernel) xft_2_57 rfl h
theorem pX2_runNextOf_11 : xX E mX2_runNextOf 11 [l0, l1, some (.ref a), l3, l4] st S V Q ↔ xX E mX2_runNextOf 12 [l0, l1, some (.ref a), l3, l4] (.ref a :: st) S V Q := xi (show decode cX2_runNextOf 11 = .ok (.aload_n 2, 1) by decide +kernel) rfl
theorem pX2_runNextOf_12 (h : xkd S a = 1) : xX E mX2_runNextOf 12 [l0, l1, l2, l3, l4] (.ref a :: st) S V Q ↔ xX E mX2_runNextOf 15 [l0, l1, l2, l3, l4] (.int (V a 6) :: st) S V Q := xi_getI (show decode cX2_runNextOf 12 = .ok (.getfield 45, 3) by decide +kernel) xft_2_45 rfl h
theorem pX2_runNextOf_15 (h : xkd S a = 7 ∨ xkd S a = 14) (hi : b < xln S a) (hn : xln S a < 2147483648) : xX E mX2_runNextOf 15 [l0, l1, l2, l3, l4] (.int (nI b) :: .ref a :: st) S V Q ↔ xX E mX2_runNextOf 16 [l0, l1, l2, l3, l4] (.int (V a b) :: st) S V Q := xi_iald (show decode cX2_runNextOf 15 = .ok (.iaload, 1) by decide +kernel) h hi hn
theorem pX2_runNextOf_16 (h : xnl l2 = true) : xX E mX2_runNextOf 16 [l0, l1, l2, l3, l4] (.int x :: st) S V Q ↔ xX E mX2_runNextOf 17 [l0, l1, l2, some (.int x), l4] st S V Q := xi_st1 (j := 2) (v := .int x) (show decode cX2_runNextOf 16 = .ok (.istore_n 3, 1) by decide +kernel) rfl h rfl rfl
theorem pX2_runNextOf_17 : xX E mX2_runNextOf 17 [l0, l1, some (.ref a), l3, l4] st S V Q ↔ xX E mX2_runNextOf 18 [l0, l1, some (.ref a), l3, l4] (.ref a :: st) S V Q := xi (show decode cX2_runNextOf 17 = .ok (.aload_n 2, 1) by decide +kernel) rfl
theorem pX2_runNextOf_18 (h : xkd S a = 1) : xX E mX2_runNextOf 18 [l0, l1, l2, l3, l4] (.ref a :: st) S V Q ↔ xX E mX2_runNextOf 21 [l0, l1, l2, l3, l4] (va_rf (xrf S a 1) :: st) S V Q := xi_getR (show decode cX2_runNextOf 18 = .ok (.getfield 54, 3) by decide +kernel) xft_2_54 rfl h
theorem pX2_runNextOf_21 : xX E mX2_runNextOf 21 [l0, l1, some (.ref a), l3, l4] st S V Q ↔ xX E mX2_runNextOf 22 [l0, l1, some (.ref a), l3, l4] (.ref a :: st) S V Q := xi (show decode cX2_runNextOf 21 = .ok (.aload_n 2, 1) by decide +kernel) rfl
theorem pX2_runNextOf_22 (h : xkd S a = 1) : xX E mX2_runNextOf 22 [l0, l1, l2, l3, l4] (.ref a :: st) S V Q ↔ xX E mX2_runNextOf 25 [l0, l1, l2, l3, l4] (.int (V a 6) :: st) S V Q := xi_getI (show decode cX2_runNextOf 22 = .ok (.getfield 45, 3) by decide +kernel) xft_2_45 rfl h
theorem pX2_runNextOf_25 (h : xkd S a = 7 ∨ xkd S a = 14) (hi : b < xln S a) (hn : xln S a < 2147483648) : xX E mX2_runNextOf 25 [l0, l1, l2, l3, l4] (.int (nI b) :: .ref a :: st) S V Q ↔ xX E mX2_runNextOf 26 [l0, l1, l2, l3, l4] (.int (V a b) :: st) S V Q := xi_iald (show decode cX2_runNextOf 25 = .ok (.iaload, 1) by decide +kernel) h hi hn
theorem pX2_runNextOf_26 (h : xnl l3 = true) : xX E mX2_runNextOf 26 [l0, l1, l2, l3, l4] (.int x :: st) S V Q ↔ xX E mX2_runNextOf 28 [l0, l1, l2, l3, some (.int x)] st S V Q := xi_st1 (j := 3) (v := .int x) (show decode cX2_runNextOf 26 = .ok (.istore 4, 2) by decide +kernel) rfl h rfl rfl
theorem pX2_runNextOf_28 : xX E mX2_runNextOf 28 [l0, l1, l2, some (.int x), l4] st S V Q ↔ xX E mX2_runNextOf 29 [l0, l1, l2, some (.int x), l4] (.int x :: st) S V Q := xi (show decode cX2_runNextOf 28 = .ok (.iload_n 3, 1) by decide +kernel) rfl
theorem pX2_runNextOf_29 : xX E mX2_runNextOf 29 [l0, l1, l2, l3, l4] st S V Q ↔ xX E mX2_runNextOf 31 [l0, l1, l2, l3, l4] (.int (nI 6) :: st) S V Q := xi (show decode cX2_runNextOf 29 = .ok (.bipush 6, 2) by decide +kernel) rfl
theorem pX2_runNextOf_31 : xX E mX2_runNextOf 31 [l0, l1, l2, l3, l4] (.int y :: .int x :: st) S V Q ↔ if ¬ x = y then xX E mX2_runNextOf 41 [l0, l1, l2, l3, l4] st S V Q else xX E mX2_runNextOf 34 [l0, l1, l2, l3, l4] st S V Q := xi_icmp (show decode cX2_runNextOf 31 = .ok (.if_icmp .ne 10, 3) by decide +kernel) (by decide) xcb_ne
theorem pX2_runNextOf_34 : xX E mX2_runNextOf 34 [l0, l1, some (.ref a), l3, l4] st S V Q ↔ xX E mX2_runNextOf 35 [l0, l1, some (.ref a), l3, l4] (.ref a :: st) S V Q := xi (show decode cX2_runNextOf 34 = .ok (.aload_n 2, 1) by decide +kernel) rfl
theorem pX2_runNextOf_35 : xX E mX2_runNextOf 35 [l0, l1, l2, l3, some (.int x)] st S V Q ↔ xX E mX2_runNextOf 37 [l0, l1, l2, l3, some (.int x)] (.int x :: st) S V Q := xi (show decode cX2_runNextOf 35 = .ok (.iload 4, 2) by decide +kernel) rfl
theorem pX2_runNextOf_37 {x0 : Int32} (h : xkd S a = 1) (hc : xcat st ≤ 8) : xX E mX2_runNextOf 37 [l0, l1, l2, l3, l4] (.int x0 :: .ref a :: st) S V Q ↔ xC E mX0_goBack [.ref a, .int x0] S V (fun v S V => xX E mX2_runNextOf 40 [l0, l1, l2, l3, l4] (v.toList ++ st) S V Q) := xi_callV (as := [.int x0]) (show decode cX2_runNextOf 37 = .ok (.invokevirtual 123, 3) by decide +kernel) xct_2_123 rfl rfl (by decide) (Nat.le_of_ble_eq_true rfl) rfl h hc
theorem pX2_runNextOf_40 : xX E mX2_runNextOf 40 [l0, l1, l2, l3, l4] [] S V Q ↔ Q none S V := xi_retV (show decode cX2_runNextOf 40 = .ok (.return_, 1) by decide +kernel) rfl
theorem pX2_runNextOf_41 : xX E mX2_runNextOf 41 [l0, l1, some (.ref a), l3, l4] st S V Q ↔ xX E mX2_runNextOf 42 [l0, l1, some (.ref a), l3, l4] (.ref a :: st) S V Q := xi (show decode cX2_runNextOf 41 = .ok (.aload_n 2, 1) by decide +kernel) rfl
theorem pX2_runNextOf_42 : xX E mX2_runNextOf 42 [l0, l1, l2, l3, l4] (.ref a :: st) S V Q ↔ xX E mX2_runNextOf 43 [l0, l1, l2, l3, l4] (.ref a :: .ref a :: st) S V Q := xi (show decode cX2_runNextOf 42 = .ok (.dup, 1) by decide +kernel) rfl
theorem pX2_runNextOf_42i : xX E mX2_runNextOf 42 [l0, l1, l2, l3, l4] (.int x :: st) S V Q ↔ xX E mX2_runNextOf 43 [l0, l1, l2, l3, l4] (.int x :: .int x :: st) S V Q := xi (show decode cX2_runNextOf 42 = .ok (.dup, 1) by decide +kernel) rfl
theorem pX2_runNextOf_43 (h : xkd S a = 1) : xX E mX2_runNextOf 43 [l0, l1, l2, l3, l4] (.ref a :: st) S V Q ↔ xX E mX2_runNextOf 46 [l0, l1, l2, l3, l4] (.int (V a 6) :: st) S V Q := xi_getI (show decode cX2_runNextOf 43 = .ok (.getfield 45, 3) by decide +kernel) xft_2_45 rfl h
theorem pX2_runNextOf_46 : xX E mX2_runNextOf 46 [l0, l1, l2, l3, l4] st S V Q ↔ xX E mX2_runNextOf 47 [l0, l1, l2, l3, l4] (.int (nI 1) :: st) S V Q := xi (show decode cX2_runNextOf 46 = .ok (.iconst 1, 1) by decide +kernel) rfl
theorem pX2_runNextOf_47 : xX E mX2_runNextOf 47 [l0, l1, l2, l3, l4] (.int y :: .int x :: st) S V Q ↔ xX E mX2_runNextOf 48 [l0, l1, l2, l3, l4] (.int (x + y) :: st) S V Q := xi (show decode cX2_runNextOf 47 = .ok (.iadd, 1) by decide +kernel) rfl
theorem pX2_runNextOf_48 (h : xkd S a = 1) : xX E mX2_runNextOf 48 [l0, l1, l2, l3, l4] (.int x :: .ref a :: st) S V Q ↔ xX E mX2_runNextOf 51 [l0, l1, l2, l3, l4] st S (xup V a 6 x) Q := xi_putI (show decode cX2_runNextOf 48 = .ok (.putfield 45, 3) by decide +kernel) xft_2_45 (by decide) rfl rfl h
theorem pX2_runNextOf_51 : xX E mX2_runNextOf 51 [l0, l1, l2, some (.int x), l4] st S V Q ↔ xX E mX2_runNextOf 52 [l0, l1, l2, some (.int x), l4] (.int x :: st) S V Q := xi (show decode cX2_runNextOf 51 = .ok (.iload_n 3, 1) by decide +kernel) rfl
theorem pX2_runNextOf_52_k0 : xX E mX2_runNextOf 52 [l0, l1, l2, l3, l4] (.int (nI 0) :: st) S V Q ↔ xX E mX2_runNextOf 92 [l0, l1, l2, l3, l4] st S V Q := xi_tab (off := 40) (show decode cX2_runNextOf 52 = .ok (.tableswitch 103 0 5 #[40, 49, 66, 73, 84, 94], 40) by decide +kernel) (by decide) (by decide) (by decide)
theorem pX2_runNextOf_52_k1 : xX E mX2_runNextOf 52 [l0, l1, l2, l3, l4] (.int (nI 1) :: st) S V Q ↔ xX E mX2_runNextOf 101 [l0, l1, l2, l3, l4] st S V Q := xi_tab (off := 49) (show decode cX2_runNextOf 52 = .ok (.tableswitch 103 0 5 #[40, 49, 66, 73, 84, 94], 40) by decide +kernel) (by decide) (by decide) (by decide)
theorem pX2_runNextOf_52_k2 : xX E mX2_runNextOf 52 [l0, l1, l2, l3, l4] (.int (nI 2) :: st) S V Q ↔ xX E mX2_runNextOf 118 [l0, l1, l2, l3, l4] st S V Q := xi_tab (off := 66) (show decode cX2_runNextOf 52 = .ok (.tableswitch 103 0 5 #[40, 49, 66, 73, 84, 94], 40) by decide +kernel) (by decide) (by decide) (by decide)
theorem pX2_runNextOf_52_k3 : xX E mX2_runNextOf 52 [l0, l1, l2, l3, l4] (.int (nI 3) :: st) S V Q ↔ xX E mX2_runNextOf 125 [l0, l1, l2, l3, l4] st S V Q := xi_tab (off := 73) (show decode cX2_runNextOf 52 = .ok (.tableswitch 103 0 5 #[40, 49, 66, 73, 84, 94], 40) by decide +kernel) (by decide) (by decide) (by decide)
theorem pX2_runNextOf_52_k4 : xX E mX2_runNextOf 52 [l0, l1, l2, l3, l4] (.int (nI 4) :: st) S V Q ↔ xX E mX2_runNextOf 136 [l0, l1, l2, l3, l4] st S V Q := xi_tab (off := 84) (show decode cX2_runNextOf 52 = .ok (.tableswitch 103 0 5 #[40, 49, 66, 73, 84, 94], 40) by decide +kernel) (by decide) (by decide) (by decide)
theorem pX2_runNextOf_52_k5 : xX E mX2_runNextOf 52 [l0, l1, l2, l3, l4] (.int (nI 5) :: st) S V Q ↔ xX E mX2_runNextOf 146 [l0, l1, l2, l3, l4] st S V Q := xi_tab (off := 94) (show decode cX2_runNextOf 52 = .ok (.tableswitch 103 0 5 #[40, 49, 66, 73, 84, 94], 40) by decide +kernel) (by decide) (by decide) (by decide)
theorem pX2_runNextOf_52_d (h : x.toInt < 0 ∨ 5 < x.toInt) : xX E mX2_runNextOf 52 [l0, l1, l2, l3, l4] (.int x :: st) S V Q ↔ xX E mX2_runNextOf 155 [l0, l1, l2, l3, l4] st S V Q := xi_tab (off := 103) (show decode cX2_runNextOf 52 = .ok (.tableswitch 103 0 5 #[40, 49, 66, 73, 84, 94], 40) by decide +kernel) (if_pos h) (by decide) (by decide)
theorem pX2_runNextOf_92 : xX E mX2_runNextOf 92 [l0, l1, some (.ref a), l3, l4] st S V Q ↔ xX E mX2_runNextOf 93 [l0, l1, some (.ref a), l3, l4] (.ref a :: st) S V Q := xi (show decode cX2_runNextOf 92 = .ok (.aload_n 2, 1) by decide +kernel) rfl
theorem pX2_runNextOf_93 : xX E mX2_runNextOf 93 [l0, l1, l2, l3, some (.int x)] st S V Q ↔ xX E mX2_runNextOf 95 [l0, l1, l2, l3, some (.int x)] (.int x :: st) S V Q := xi (show decode cX2_runNextOf 93 = .ok (.iload 4, 2) by decide +kernel) rfl
theorem pX2_runNextOf_95 {x0 : Int32} (h : xkd S a = 1) (hc : xcat st ≤ 8) : xX E mX2_runNextOf 95 [l0, l1, l2, l3, l4] (.int x0 :: .ref a :: st) S V Q ↔ xC E mX0_addToSum [.ref a, .int x0] S V (fun v S V => xX E mX2_runNextOf 98 [l0, l1, l2, l3, l4] (v.toList ++ st) S V Q) := xi_callV (as := [.int x0]) (show decode cX2_runNextOf 95 = .ok (.invokevirtual 126, 3) by decide +kernel) xct_2_126 rfl rfl (by decide) (Nat.le_of_ble_eq_true rfl) rfl h hc
theorem pX2_runNextOf_98 : xX E mX2_runNextOf 98 [l0, l1, l2, l3, l4] st S V Q ↔ xX E mX2_runNextOf 155 [l0, l1, l2, l3, l4] st S V Q := xi_goto (show decode cX2_runNextOf 98 = .ok (.goto 57, 3) by decide +kernel) (by decide)
theorem pX2_runNextOf_101 : xX E mX2_runNextOf 101 [some (.ref a), l1, l2, l3, l4] st S V Q ↔ xX E mX2_runNextOf 102 [some (.ref a), l1, l2, l3, l4] (.ref a :: st) S V Q := xi (show decode cX2_runNextOf 101 = .ok (.aload_n 0, 1) by decide +kernel) rfl
theorem pX2_runNextOf_102 (h : xkd S a = 3) : xX E mX2_runNextOf 102 [l0, l1, l2, l3, l4] (.ref a :: st) S V Q ↔ xX E mX2_runNextOf 105 [l0, l1, l2, l3, l4] (va_rf (xrf S a 0) :: st) S V Q := xi_getR (show decode cX2_runNextOf 102 = .ok (.getfield 11, 3) by decide +kernel) xft_2_11 rfl h
theorem pX2_runNextOf_105 : xX E mX2_runNextOf 105 [l0, l1, l2, l3, some (.int x)] st S V Q ↔ xX E mX2_runNextOf 107 [l0, l1, l2, l3, some (.int x)] (.int x :: st) S V Q := xi (show decode cX2_runNextOf 105 = .ok (.iload 4, 2) by decide +kernel) rfl
theorem pX2_runNextOf_107 (h : xkd S a = 10 ∨ xkd S a = 11) (hi : b < xln S a) (hn : xln S a < 2147483648) : xX E mX2_runNextOf 107 [l0, l1, l2, l3, l4] (.int (nI b) :: .ref a :: st) S V Q ↔ xX E mX2_runNextOf 108 [l0, l1, l2, l3, l4] (va_rf (xrf S a b) :: st) S V Q := xi_aald (show decode cX2_runNextOf 107 = .ok (.aaload, 1) by decide +kernel) h hi hn
theorem pX2_runNextOf_108 : xX E mX2_runNextOf 108 [l0, l1, some (.ref a), l3, l4] st S V Q ↔ xX E mX2_runNextOf 109 [l0, l1, some (.ref a), l3, l4] (.ref a :: st) S V Q := xi (show decode cX2_runNextOf 108 = .ok (.aload_n 2, 1) by decide +kernel) rfl
theorem pX2_runNextOf_109 (h : xkd S a = 1) : xX E mX2_runNextOf 109 [l0, l1, l2, l3, l4] (.ref a :: st) S V Q ↔ xX E mX2_runNextOf 112 [l0, l1, l2, l3, l4] (.int (V a 7) :: st) S V Q := xi_getI (show decode cX2_runNextOf 109 = .ok (.getfield 129, 3) by decide +kernel) xft_2_129 rfl h
theorem pX2_runNextOf_112 {x0 : Int32} (h : xkd S a = 1) (hc : xcat st ≤ 8) : xX E mX2_runNextOf 112 [l0, l1, l2, l3, l4] (.int x0 :: .ref a :: st) S V Q ↔ xC E mX0_receive [.ref a, .int x0] S V (fun v S V => xX E mX2_runNextOf 115 [l0, l1, l2, l3, l4] (v.toList ++ st) S V Q) := xi_callV (as := [.int x0]) (show decode cX2_runNextOf 112 = .ok (.invokevirtual 132, 3) by decide +kernel) xct_2_132 rfl rfl (by decide) (Nat.le_of_ble_eq_true rfl) rfl h hc
theorem pX2_runNextOf_115 : xX E mX2_runNextOf 115 [l0, l1, l2, l3, l4] st S V Q ↔ xX E mX2_runNextOf 155 [l0, l1, l2, l3, l4] st S V Q := xi_goto (show decode cX2_runNextOf 115 = .ok (.goto 40, 3) by decide +kernel) (by decide)
theorem pX2_runNextOf_118 : xX E mX2_runNextOf 118 [l0, l1, some (.ref a), l3, l4] st S V Q ↔ xX E mX2_runNextOf 119 [l0, l1, some (.ref a), l3, l4] (.ref a :: st) S V Q := xi (show decode cX2_runNextOf 118 = .ok (.aload_n 2, 1) by decide +kernel) rfl
theorem pX2_runNextOf_119  (h : xkd S a = 1) (hc : xcat st ≤ 8) : xX E mX2_runNextOf 119 [l0, l1, l2, l3, l4] (.ref a :: st) S V Q ↔ xC E mX0_takeMessage [.ref a] S V (fun v S V => xX E mX2_runNextOf 122 [l0, l1, l2, l3, l4] (v.toList ++ st) S V Q) := xi_callV (as := []) (show decode cX2_runNextOf 119 = .ok (.invokevirtual 135, 3) by decide +kernel) xct_2_135 rfl rfl (by decide) (Nat.le_of_ble_eq_true rfl) rfl h hc
theorem pX2_runNextOf_122 : xX E mX2_runNextOf 122 [l0, l1, l2, l3, l4] st S V Q ↔ xX E mX2_runNextOf 155 [l0, l1, l2, l3, l4] st S V Q := xi_goto (show decode cX2_runNextOf 122 = .ok (.goto 33, 3) by decide +kernel) (by decide)
theorem pX2_runNextOf_125 : xX E mX2_runNextOf 125 [some (.ref a), l1, l2, l3, l4] st S V Q ↔ xX E mX2_runNextOf 126 [some (.ref a), l1, l2, l3, l4] (.ref a :: st) S V Q := xi (show decode cX2_runNextOf 125 = .ok (.aload_n 0, 1) by decide +kernel) rfl
theorem pX2_runNextOf_126 (h : xkd S a = 3) : xX E mX2_runNextOf 126 [l0, l1, l2, l3, l4] (.ref a :: st) S V Q ↔ xX E mX2_runNextOf 129 [l0, l1, l2, l3, l4] (va_rf (xrf S a 1) :: st) S V Q := xi_getR (show decode cX2_runNextOf 126 = .ok (.getfield 17, 3) by decide +kernel) xft_2_17 rfl h
theorem pX2_runNextOf_129 : xX E mX2_runNextOf 129 [l0, l1, l2, l3, some (.int x)] st S V Q ↔ xX E mX2_runNextOf 131 [l0, l1, l2, l3, some (.int x)] (.int x :: st) S V Q := xi (show decode cX2_runNextOf 129 = .ok (.iload 4, 2) by decide +kernel) rfl
theorem pX2_runNextOf_131 : xX E mX2_runNextOf 131 [l0, some (.int x), l2, l3, l4] st S V Q ↔ xX E mX2_runNextOf 132 [l0, some (.int x), l2, l3, l4] (.int x :: st) S V Q := xi (show decode cX2_runNextOf 131 = .ok (.iload_n 1, 1) by decide +kernel) rfl
theorem pX2_runNextOf_132 (h : xkd S a = 7) (hi : b < xln S a) (hn : xln S a < 2147483648) : xX E mX2_runNextOf 132 [l0, l1, l2, l3, l4] (.int x :: .int (nI b) :: .ref a :: st) S V Q ↔ xX E mX2_runNextOf 133 [l0, l1, l2, l3, l4] st S (xup V a b x) Q := xi_iast (show decode cX2_runNextOf 132 = .ok (.iastore, 1) by decide +kernel) h hi hn
theorem pX2_runNextOf_133 : xX E mX2_runNextOf 133 [l0, l1, l2, l3, l4] st S V Q ↔ xX E mX2_runNextOf 155 [l0, l1, l2, l3, l4] st S V Q := xi_goto (show decode cX2_runNextOf 133 = .ok (.goto 22, 3) by decide +kernel) (by decide)
theorem pX2_runNextOf_136 : xX E mX2_runNextOf 136 [some (.ref a), l1, l2, l3, l4] st S V Q ↔ xX E mX2_runNextOf 137 [some (.ref a), l1, l2, l3, l4] (.ref a :: st) S V Q := xi (show decode cX2_runNextOf 136 = .ok (.aload_n 0, 1) by decide +kernel) rfl
theorem pX2_runNextOf_137 : xX E mX2_runNextOf 137 [l0, some (.int x), l2, l3, l4] st S V Q ↔ xX E mX2_runNextOf 138 [l0, some (.int x), l2, l3, l4] (.int x :: st) S V Q := xi (show decode cX2_runNextOf 137 = .ok (.iload_n 1, 1) by decide +kernel) rfl
theorem pX2_runNextOf_138 : xX E mX2_runNextOf 138 [l0, l1, l2, l3, some (.int x)] st S V Q ↔ xX E mX2_runNextOf 140 [l0, l1, l2, l3, some (.int x)] (.int x :: st) S V Q := xi (show decode cX2_runNextOf 138 = .ok (.iload 4, 2) by decide +kernel) rfl
theorem pX2_runNextOf_140 {x0 : Int32} {x1 : Int32} (h : xkd S a = 3) (hc : xcat st ≤ 8) : xX E mX2_runNextOf 140 [l0, l1, l2, l3, l4] (.int x1 :: .int x0 :: .ref a :: st) S V Q ↔ xC E mX2_freeIfHeldBy [.ref a, .int x0, .int x1] S V (fun v S V => xX E mX2_runNextOf 143 [l0, l1, l2, l3, l4] (v.toList ++ st) S V Q) := xi_callV (as := [.int x0, .int x1]) (show decode cX2_runNextOf 140 = .ok (.invokevirtual 138, 3) by decide +kernel) xct_2_138 rfl rfl (by decide) (Nat.le_of_ble_eq_true rfl) rfl h hc
theorem pX2_runNextOf_143 : xX E mX2_runNextOf 143 [l0, l1, l2, l3, l4] st S V Q ↔ xX E mX2_runNextOf 155 [l0, l1, l2, l3, l4] st S V Q := xi_goto (show decode cX2_runNextOf 143 = .ok (.goto 12, 3) by decide +kernel) (by decide)
theorem pX2_runNextOf_146 : xX E mX2_runNextOf 146 [l0, l1, some (.ref a), l3, l4] st S V Q ↔ xX E mX2_runNextOf 147 [l0, l1, some (.ref a), l3, l4] (.ref a :: st) S V Q := xi (show decode cX2_runNextOf 146 = .ok (.aload_n 2, 1) by decide +kernel) rfl
theorem pX2_runNextOf_147 : xX E mX2_runNextOf 147 [l0, l1, l2, l3, some (.int x)] st S V Q ↔ xX E mX2_runNextOf 149 [l0, l1, l2, l3, some (.int x)] (.int x :: st) S V Q := xi (show decode cX2_runNextOf 147 = .ok (.iload 4, 2) by decide +kernel) rfl
theorem pX2_runNextOf_149 (h : xkd S a = 1) : xX E mX2_runNextOf 149 [l0, l1, l2, l3, l4] (.int x :: .ref a :: st) S V Q ↔ xX E mX2_runNextOf 152 [l0, l1, l2, l3, l4] st S (xup V a 10 x) Q := xi_putI (show decode cX2_runNextOf 149 = .ok (.putfield 51, 3) by decide +kernel) xft_2_51 (by decide) rfl rfl h
theorem pX2_runNextOf_152 : xX E mX2_runNextOf 152 [l0, l1, l2, l3, l4] st S V Q ↔ xX E mX2_runNextOf 155 [l0, l1, l2, l3, l4] st S V Q := xi_goto (show decode cX2_runNextOf 152 = .ok (.goto 3, 3) by decide +kernel) (by decide)
theorem pX2_runNextOf_155 : xX E mX2_runNextOf 155 [l0, l1, l2, l3, l4] [] S V Q ↔ Q none S V := xi_retV (show decode cX2_runNextOf 155 = .ok (.return_, 1) by decide +kernel) rfl
-- TurnSlots$History.<init>()V
theorem pX1_init_0 : xX E mX1_init 0 [some (.ref a), l1] st S V Q ↔ xX E mX1_init 1 [some (.ref a), l1] (.ref a :: st) S V Q := xi (show decode cX1_init 0 = .ok (.aload_n 0, 1) by decide +kernel) rfl
theorem pX1_init_1 (hc : xcat st ≤ 8) : xX E mX1_init 1 [l0, l1] (.ref a :: st) S V Q ↔ xX E mX1_init 4 [l0, l1] st S V Q := xi_objI (show decode cX1_init 1 = .ok (.invokespecial 3, 3) by decide +kernel) xcn_1_3 (by decide) (by decide) hc
theorem pX1_init_4 : xX E mX1_init 4 [some (.ref a), l1] st S V Q ↔ xX E mX1_init 5 [some (.ref a), l1] (.ref a :: st) S V Q := xi (show decode cX1_init 4 = .ok (.aload_n 0, 1) by decide +kernel) rfl
theorem pX1_init_5 : xX E mX1_init 5 [l0, l1] st S V Q ↔ xX E mX1_init 7 [l0, l1] (.int (nI 6) :: st) S V Q := xi (show decode cX1_init 5 = .ok (.bipush 6, 2) by decide +kernel) rfl
theorem pX1_init_7 (h : a ≤ 10000) : xX E mX1_init 7 [l0, l1] (.int (nI a) :: st) S V Q ↔ xX E mX1_init 10 [l0, l1] (.ref S.2.1 :: st) (xnew S 11 a a) (xrow V S.2.1 (fun _ => 0)) Q := xi_anewarr (show decode cX1_init 7 = .ok (.anewarray 9, 3) by decide +kernel) xkt_1_9 (Or.inr ⟨rfl, rfl⟩) h
theorem pX1_init_10 (h : xkd S a = 2) : xX E mX1_init 10 [l0, l1] (.ref b :: .ref a :: st) S V Q ↔ xX E mX1_init 13 [l0, l1] st (xsetr S a 0 (some b)) V Q := xi_putR (show decode cX1_init 10 = .ok (.putfield 11, 3) by decide +kernel) xft_1_11 (by decide) rfl rfl rfl h
theorem pX1_init_13 : xX E mX1_init 13 [l0, l1] st S V Q ↔ xX E mX1_init 14 [l0, l1] (.int (nI 0) :: st) S V Q := xi (show decode cX1_init 13 = .ok (.iconst 0, 1) by decide +kernel) rfl
theorem pX1_init_14 (h : xnl l0 = true) : xX E mX1_init 14 [l0, l1] (.int x :: st) S V Q ↔ xX E mX1_init 15 [l0, some (.int x)] st S V Q := xi_st1 (j := 0) (v := .int x) (show decode cX1_init 14 = .ok (.istore_n 1, 1) by decide +kernel) rfl h rfl rfl
theorem pX1_init_15 : xX E mX1_init 15 [l0, some (.int x)] st S V Q ↔ xX E mX1_init 16 [l0, some (.int x)] (.int x :: st) S V Q := xi (show decode cX1_init 15 = .ok (.iload_n 1, 1) by decide +kernel) rfl
theorem pX1_init_16 : xX E mX1_init 16 [l0, l1] st S V Q ↔ xX E mX1_init 18 [l0, l1] (.int (nI 6) :: st) S V Q := xi (show decode cX1_init 16 = .ok (.bipush 6, 2) by decide +kernel) rfl
theorem pX1_init_18 : xX E mX1_init 18 [l0, l1] (.int y :: .int x :: st) S V Q ↔ if y ≤ x then xX E mX1_init 40 [l0, l1] st S V Q else xX E mX1_init 21 [l0, l1] st S V Q := xi_icmp (show decode cX1_init 18 = .ok (.if_icmp .ge 22, 3) by decide +kernel) (by decide) xcb_ge
theorem pX1_init_21 : xX E mX1_init 21 [some (.ref a), l1] st S V Q ↔ xX E mX1_init 22 [some (.ref a), l1] (.ref a :: st) S V Q := xi (show decode cX1_init 21 = .ok (.aload_n 0, 1) by decide +kernel) rfl
theorem pX1_init_22 (h : xkd S a = 2) : xX E mX1_init 22 [l0, l1] (.ref a :: st) S V Q ↔ xX E mX1_init 25 [l0, l1] (va_rf (xrf S a 0) :: st) S V Q := xi_getR (show decode cX1_init 22 = .ok (.getfield 11, 3) by decide +kernel) xft_1_11 rfl h
theorem pX1_init_25 : xX E mX1_init 25 [l0, some (.int x)] st S V Q ↔ xX E mX1_init 26 [l0, some (.int x)] (.int x :: st) S V Q := xi (show decode cX1_init 25 = .ok (.iload_n 1, 1) by decide +kernel) rfl
theorem pX1_init_26 : xX E mX1_init 26 [l0, l1] st S V Q ↔ xX E mX1_init 29 [l0, l1] (.ref S.2.1 :: st) (xnew S 3 0 6) (xrow V S.2.1 (fun _ => 0)) Q := xi_new (show decode cX1_init 26 = .ok (.new 9, 3) by decide +kernel) xkt_1_9
theorem pX1_init_29 : xX E mX1_init 29 [l0, l1] (.ref a :: st) S V Q ↔ xX E mX1_init 30 [l0, l1] (.ref a :: .ref a :: st) S V Q := xi (show decode cX1_init 29 = .ok (.dup, 1) by decide +kernel) rfl
theorem pX1_init_29i : xX E mX1_init 29 [l0, l1] (.int x :: st) S V Q ↔ xX E mX1_init 30 [l0, l1] (.int x :: .int x :: st) S V Q := xi (show decode cX1_init 29 = .ok (.dup, 1) by decide +kernel) rfl
theorem pX1_init_30  (hc : xcat st ≤ 8) : xX E mX1_init 30 [l0, l1] (.ref a :: st) S V Q ↔ xC E mX2_init [.ref a] S V (fun v S V => xX E mX1_init 33 [l0, l1] (v.toList ++ st) S V Q) := xi_callI (as := []) (show decode cX1_init 30 = .ok (.invokespecial 17, 3) by decide +kernel) xct_1_17 (by decide) rfl rfl (by decide) (Nat.le_of_ble_eq_true rfl) hc
theorem pX1_init_33 (h : (xkd S a = 10 ∧ xkd S c = 1) ∨ (xkd S a = 11 ∧ xkd S c = 3)) (hi : b < xln S a) (hn : xln S a < 2147483648) : xX E mX1_init 33 [l0, l1] (.ref c :: .int (nI b) :: .ref a :: st) S V Q ↔ xX E mX1_init 34 [l0, l1] st (xsetr S a b (some c)) V Q := xi_aast (show decode cX1_init 33 = .ok (.aastore, 1) by decide +kernel) h hi hn
theorem pX1_init_34 (h : xnl l0 = true) : xX E mX1_init 34 [l0, some (.int (nI a))] st S V Q ↔ xX E mX1_init 37 [l0, some (.int (nI (a + 1)))] st S V Q := xi_iinc (j := 0) (show decode cX1_init 34 = .ok (.iinc 1 1, 3) by decide +kernel) rfl h rfl (nI_add a 1) (Nat.le_of_ble_eq_true rfl) rfl
theorem pX1_init_37 : xX E mX1_init 37 [l0, l1] st S V Q ↔ xX E mX1_init 15 [l0, l1] st S V Q := xi_goto (show decode cX1_init 37 = .ok (.goto (-22), 3) by decide +kernel) (by decide)
theorem pX1_init_40 : xX E mX1_init 40 [l0, l1] [] S V Q ↔ Q none S V := xi_retV (show decode cX1_init 40 = .ok (.return_, 1) by decide +kernel) rfl
-- TurnSlots$History.record(LTurnSlots$Machine;)V
theorem pX1_record_0 : xX E mX1_record 0 [some (.ref a), l1] st S V Q ↔ xX E mX1_record 1 [some (.ref a), l1] (.ref a :: st) S V Q := xi (show decode cX1_record 0 = .ok (.aload_n 0, 1) by decide +kernel) rfl
theorem pX1_record_1 (h : xkd S a = 2) : xX E mX1_record 1 [l0, l1] (.ref a :: st) S V Q ↔ xX E mX1_record 4 [l0, l1] (va_rf (xrf S a 0) :: st) S V Q := xi_getR (show decode cX1_record 1 = .ok (.getfield 11, 3) by decide +kernel) xft_1_11 rfl h
theorem pX1_record_4 : xX E mX1_record 4 [some (.ref a), l1] st S V Q ↔ xX E mX1_record 5 [some (.ref a), l1] (.ref a :: st) S V Q := xi (show decode cX1_record 4 = .ok (.aload_n 0, 1) by decide +kernel) rfl
theorem pX1_record_5 (h : xkd S a = 2) : xX E mX1_record 5 [l0, l1] (.ref a :: st) S V Q ↔ xX E mX1_record 8 [l0, l1] (.int (V a 1) :: st) S V Q := xi_getI (show decode cX1_record 5 = .ok (.getfield 18, 3) by decide +kernel) xft_1_18 rfl h
theorem pX1_record_8 : xX E mX1_record 8 [some (.ref a), l1] st S V Q ↔ xX E mX1_record 9 [some (.ref a), l1] (.ref a :: st) S V Q := xi (show decode cX1_record 8 = .ok (.aload_n 0, 1) by decide +kernel) rfl
theorem pX1_record_9 (h : xkd S a = 2) : xX E mX1_record 9 [l0, l1] (.ref a :: st) S V Q ↔ xX E mX1_record 12 [l0, l1] (.int (V a 2) :: st) S V Q := xi_getI (show decode cX1_record 9 = .ok (.getfield 22, 3) by decide +kernel) xft_1_22 rfl h
theorem pX1_record_12 : xX E mX1_record 12 [l0, l1] (.int y :: .int x :: st) S V Q ↔ xX E mX1_record 13 [l0, l1] (.int (x + y) :: st) S V Q := xi (show decode cX1_record 12 = .ok (.iadd, 1) by decide +kernel) rfl
theorem pX1_record_13 : xX E mX1_record 13 [l0, l1] st S V Q ↔ xX E mX1_record 15 [l0, l1] (.int (nI 6) :: st) S V Q := xi (show decode cX1_record 13 = .ok (.bipush 6, 2) by decide +kernel) rfl
theorem pX1_record_15i (h : ¬ y = 0) : xX E mX1_record 15 [l0, l1] (.int y :: .int x :: st) S V Q ↔ xX E mX1_record 16 [l0, l1] (.int (x - x / y * y) :: st) S V Q := xi_remG (show decode cX1_record 15 = .ok (.irem, 1) by decide +kernel) h
theorem pX1_record_15 (h0 : 0 < b) (ha : a < 2147483648) (hb : b < 2147483648) : xX E mX1_record 15 [l0, l1] (.int (nI b) :: .int (nI a) :: st) S V Q ↔ xX E mX1_record 16 [l0, l1] (.int (nI (a % b)) :: st) S V Q := xi_rem (show decode cX1_record 15 = .ok (.irem, 1) by decide +kernel) h0 ha hb
theorem pX1_record_16 (h : xkd S a = 10 ∨ xkd S a = 11) (hi : b < xln S a) (hn : xln S a < 2147483648) : xX E mX1_record 16 [l0, l1] (.int (nI b) :: .ref a :: st) S V Q ↔ xX E mX1_record 17 [l0, l1] (va_rf (xrf S a b) :: st) S V Q := xi_aald (show decode cX1_record 16 = .ok (.aaload, 1) by decide +kernel) h hi hn
theorem pX1_record_17 : xX E mX1_record 17 [l0, some (.ref a)] st S V Q ↔ xX E mX1_record 18 [l0, some (.ref a)] (.ref a :: st) S V Q := xi (show decode cX1_record 17 = .ok (.aload_n 1, 1) by decide +kernel) rfl
theorem pX1_record_18 {a1 : Nat} (h : xkd S a = 3) (hc : xcat st ≤ 8) : xX E mX1_record 18 [l0, l1] (.ref a1 :: .ref a :: st) S V Q ↔ xC E mX2_copyFrom [.ref a, .ref a1] S V (fun v S V => xX E mX1_record 21 [l0, l1] (v.toList ++ st) S V Q) := xi_callV (as := [.ref a1]) (show decode cX1_record 18 = .ok (.invokevirtual 25, 3) by decide +kernel) xct_1_25 rfl rfl (by decide) (Nat.le_of_ble_eq_true rfl) rfl h hc
theorem pX1_record_21 : xX E mX1_record 21 [some (.ref a), l1] st S V Q ↔ xX E mX1_record 22 [some (.ref a), l1] (.ref a :: st) S V Q := xi (show decode cX1_record 21 = .ok (.aload_n 0, 1) by decide +kernel) rfl
theorem pX1_record_22 (h : xkd S a = 2) : xX E mX1_record 22 [l0, l1] (.ref a :: st) S V Q ↔ xX E mX1_record 25 [l0, l1] (.int (V a 2) :: st) S V Q := xi_getI (show decode cX1_record 22 = .ok (.getfield 22, 3) by decide +kernel) xft_1_22 rfl h
theorem pX1_record_25 : xX E mX1_record 25 [l0, l1] st S V Q ↔ xX E mX1_record 27 [l0, l1] (.int (nI 6) :: st) S V Q := xi (show decode cX1_record 25 = .ok (.bipush 6, 2) by decide +kernel) rfl
theorem pX1_record_27 : xX E mX1_record 27 [l0, l1] (.int y :: .int x :: st) S V Q ↔ if y ≤ x then xX E mX1_record 43 [l0, l1] st S V Q else xX E mX1_record 30 [l0, l1] st S V Q := xi_icmp (show decode cX1_record 27 = .ok (.if_icmp .ge 16, 3) by decide +kernel) (by decide) xcb_ge
theorem pX1_record_30 : xX E mX1_record 30 [some (.ref a), l1] st S V Q ↔ xX E mX1_record 31 [some (.ref a), l1] (.ref a :: st) S V Q := xi (show decode cX1_record 30 = .ok (.aload_n 0, 1) by decide +kernel) rfl
theorem pX1_record_31 : xX E mX1_record 31 [l0, l1] (.ref a :: st) S V Q ↔ xX E mX1_record 32 [l0, l1] (.ref a :: .ref a :: st) S V Q := xi (show decode cX1_record 31 = .ok (.dup, 1) by decide +kernel) rfl
theorem pX1_record_31i : xX E mX1_record 31 [l0, l1] (.int x :: st) S V Q ↔ xX E mX1_record 32 [l0, l1] (.int x :: .int x :: st) S V Q := xi (show decode cX1_record 31 = .ok (.dup, 1) by decide +kernel) rfl
theorem pX1_record_32 (h : xkd S a = 2) : xX E mX1_record 32 [l0, l1] (.ref a :: st) S V Q ↔ xX E mX1_record 35 [l0, l1] (.int (V a 2) :: st) S V Q := xi_getI (show decode cX1_record 32 = .ok (.getfield 22, 3) by decide +kernel) xft_1_22 rfl h
theorem pX1_record_35 : xX E mX1_record 35 [l0, l1] st S V Q ↔ xX E mX1_record 36 [l0, l1] (.int (nI 1) :: st) S V Q := xi (show decode cX1_record 35 = .ok (.iconst 1, 1) by decide +kernel) rfl
theorem pX1_record_36 : xX E mX1_record 36 [l0, l1] (.int y :: .int x :: st) S V Q ↔ xX E mX1_record 37 [l0, l1] (.int (x + y) :: st) S V Q := xi (show decode cX1_record 36 = .ok (.iadd, 1) by decide +kernel) rfl
theorem pX1_record_37 (h : xkd S a = 2) : xX E mX1_record 37 [l0, l1] (.int x :: .ref a :: st) S V Q ↔ xX E mX1_record 40 [l0, l1] st S (xup V a 2 x) Q := xi_putI (show decode cX1_record 37 = .ok (.putfield 22, 3) by decide +kernel) xft_1_22 (by decide) rfl rfl h
theorem pX1_record_40 : xX E mX1_record 40 [l0, l1] st S V Q ↔ xX E mX1_record 56 [l0, l1] st S V Q := xi_goto (show decode cX1_record 40 = .ok (.goto 16, 3) by decide +kernel) (by decide)
theorem pX1_record_43 : xX E mX1_record 43 [some (.ref a), l1] st S V Q ↔ xX E mX1_record 44 [some (.ref a), l1] (.ref a :: st) S V Q := xi (show decode cX1_record 43 = .ok (.aload_n 0, 1) by decide +kernel) rfl
theorem pX1_record_44 : xX E mX1_record 44 [some (.ref a), l1] st S V Q ↔ xX E mX1_record 45 [some (.ref a), l1] (.ref a :: st) S V Q := xi (show decode cX1_record 44 = .ok (.aload_n 0, 1) by decide +kernel) rfl
theorem pX1_record_45 (h : xkd S a = 2) : xX E mX1_record 45 [l0, l1] (.ref a :: st) S V Q ↔ xX E mX1_record 48 [l0, l1] (.int (V a 1) :: st) S V Q := xi_getI (show decode cX1_record 45 = .ok (.getfield 18, 3) by decide +kernel) xft_1_18 rfl h
theorem pX1_record_48 : xX E mX1_record 48 [l0, l1] st S V Q ↔ xX E mX1_record 49 [l0, l1] (.int (nI 1) :: st) S V Q := xi (show decode cX1_record 48 = .ok (.iconst 1, 1) by decide +kernel) rfl
theorem pX1_record_49 : xX E mX1_record 49 [l0, l1] (.int y :: .int x :: st) S V Q ↔ xX E mX1_record 50 [l0, l1] (.int (x + y) :: st) S V Q := xi (show decode cX1_record 49 = .ok (.iadd, 1) by decide +kernel) rfl
theorem pX1_record_50 : xX E mX1_record 50 [l0, l1] st S V Q ↔ xX E mX1_record 52 [l0, l1] (.int (nI 6) :: st) S V Q := xi (show decode cX1_record 50 = .ok (.bipush 6, 2) by decide +kernel) rfl
theorem pX1_record_52i (h : ¬ y = 0) : xX E mX1_record 52 [l0, l1] (.int y :: .int x :: st) S V Q ↔ xX E mX1_record 53 [l0, l1] (.int (x - x / y * y) :: st) S V Q := xi_remG (show decode cX1_record 52 = .ok (.irem, 1) by decide +kernel) h
theorem pX1_record_52 (h0 : 0 < b) (ha : a < 2147483648) (hb : b < 2147483648) : xX E mX1_record 52 [l0, l1] (.int (nI b) :: .int (nI a) :: st) S V Q ↔ xX E mX1_record 53 [l0, l1] (.int (nI (a % b)) :: st) S V Q := xi_rem (show decode cX1_record 52 = .ok (.irem, 1) by decide +kernel) h0 ha hb
theorem pX1_record_53 (h : xkd S a = 2) : xX E mX1_record 53 [l0, l1] (.int x :: .ref a :: st) S V Q ↔ xX E mX1_record 56 [l0, l1] st S (xup V a 1 x) Q := xi_putI (show decode cX1_record 53 = .ok (.putfield 18, 3) by decide +kernel) xft_1_18 (by decide) rfl rfl h
theorem pX1_record_56 : xX E mX1_record 56 [l0, l1] [] S V Q ↔ Q none S V := xi_retV (show decode cX1_record 56 = .ok (.return_, 1) by decide +kernel) rfl
-- TurnSlots$History.takeBack(LTurnSlots$Machine;)V
theorem pX1_takeBack_0 : xX E mX1_takeBack 0 [some (.ref a), l1] st S V Q ↔ xX E mX1_takeBack 1 [some (.ref a), l1] (.ref a :: st) S V Q := xi (show decode cX1_takeBack 0 = .ok (.aload_n 0, 1) by decide +kernel) rfl
theorem pX1_takeBack_1 (h : xkd S a = 2) : xX E mX1_takeBack 1 [l0, l1] (.ref a :: st) S V Q ↔ xX E mX1_takeBack 4 [l0, l1] (.int (V a 2) :: st) S V Q := xi_getI (show decode cX1_takeBack 1 = .ok (.getfield 22, 3) by decide +kernel) xft_1_22 rfl h
theorem pX1_takeBack_4 : xX E mX1_takeBack 4 [l0, l1] (.int x :: st) S V Q ↔ if x ≤ nI 0 then xX E mX1_takeBack 38 [l0, l1] st S V Q else xX E mX1_takeBack 7 [l0, l1] st S V Q := xi_if (show decode cX1_takeBack 4 = .ok (.ifCond .le 34, 3) by decide +kernel) (by decide) xcb_le
theorem pX1_takeBack_7 : xX E mX1_takeBack 7 [some (.ref a), l1] st S V Q ↔ xX E mX1_takeBack 8 [some (.ref a), l1] (.ref a :: st) S V Q := xi (show decode cX1_takeBack 7 = .ok (.aload_n 0, 1) by decide +kernel) rfl
theorem pX1_takeBack_8 : xX E mX1_takeBack 8 [l0, l1] (.ref a :: st) S V Q ↔ xX E mX1_takeBack 9 [l0, l1] (.ref a :: .ref a :: st) S V Q := xi (show decode cX1_takeBack 8 = .ok (.dup, 1) by decide +kernel) rfl
theorem pX1_takeBack_8i : xX E mX1_takeBack 8 [l0, l1] (.int x :: st) S V Q ↔ xX E mX1_takeBack 9 [l0, l1] (.int x :: .int x :: st) S V Q := xi (show decode cX1_takeBack 8 = .ok (.dup, 1) by decide +kernel) rfl
theorem pX1_takeBack_9 (h : xkd S a = 2) : xX E mX1_takeBack 9 [l0, l1] (.ref a :: st) S V Q ↔ xX E mX1_takeBack 12 [l0, l1] (.int (V a 2) :: st) S V Q := xi_getI (show decode cX1_takeBack 9 = .ok (.getfield 22, 3) by decide +kernel) xft_1_22 rfl h
theorem pX1_takeBack_12 : xX E mX1_takeBack 12 [l0, l1] st S V Q ↔ xX E mX1_takeBack 13 [l0, l1] (.int (nI 1) :: st) S V Q := xi (show decode cX1_takeBack 12 = .ok (.iconst 1, 1) by decide +kernel) rfl
theorem pX1_takeBack_13 : xX E mX1_takeBack 13 [l0, l1] (.int y :: .int x :: st) S V Q ↔ xX E mX1_takeBack 14 [l0, l1] (.int (x - y) :: st) S V Q := xi (show decode cX1_takeBack 13 = .ok (.isub, 1) by decide +kernel) rfl
theorem pX1_takeBack_14 (h : xkd S a = 2) : xX E mX1_takeBack 14 [l0, l1] (.int x :: .ref a :: st) S V Q ↔ xX E mX1_takeBack 17 [l0, l1] st S (xup V a 2 x) Q := xi_putI (show decode cX1_takeBack 14 = .ok (.putfield 22, 3) by decide +kernel) xft_1_22 (by decide) rfl rfl h
theorem pX1_takeBack_17 : xX E mX1_takeBack 17 [l0, some (.ref a)] st S V Q ↔ xX E mX1_takeBack 18 [l0, some (.ref a)] (.ref a :: st) S V Q := xi (show decode cX1_takeBack 17 = .ok (.aload_n 1, 1) by decide +kernel) rfl
theorem pX1_takeBack_18 : xX E mX1_takeBack 18 [some (.ref a), l1] st S V Q ↔ xX E mX1_takeBack 19 [some (.ref a), l1] (.ref a :: st) S V Q := xi (show decode cX1_takeBack 18 = .ok (.aload_n 0, 1) by decide +kernel) rfl
theorem pX1_takeBack_19 (h : xkd S a = 2) : xX E mX1_takeBack 19 [l0, l1] (.ref a :: st) S V Q ↔ xX E mX1_takeBack 22 [l0, l1] (va_rf (xrf S a 0) :: st) S V Q := xi_getR (show decode cX1_takeBack 19 = .ok (.getfield 11, 3) by decide +kernel) xft_1_11 rfl h
theorem pX1_takeBack_22 : xX E mX1_takeBack 22 [some (.ref a), l1] st S V Q ↔ xX E mX1_takeBack 23 [some (.ref a), l1] (.ref a :: st) S V Q := xi (show decode cX1_takeBack 22 = .ok (.aload_n 0, 1) by decide +kernel) rfl
theorem pX1_takeBack_23 (h : xkd S a = 2) : xX E mX1_takeBack 23 [l0, l1] (.ref a :: st) S V Q ↔ xX E mX1_takeBack 26 [l0, l1] (.int (V a 1) :: st) S V Q := xi_getI (show decode cX1_takeBack 23 = .ok (.getfield 18, 3) by decide +kernel) xft_1_18 rfl h
theorem pX1_takeBack_26 : xX E mX1_takeBack 26 [some (.ref a), l1] st S V Q ↔ xX E mX1_takeBack 27 [some (.ref a), l1] (.ref a :: st) S V Q := xi (show decode cX1_takeBack 26 = .ok (.aload_n 0, 1) by decide +kernel) rfl
theorem pX1_takeBack_27 (h : xkd S a = 2) : xX E mX1_takeBack 27 [l0, l1] (.ref a :: st) S V Q ↔ xX E mX1_takeBack 30 [l0, l1] (.int (V a 2) :: st) S V Q := xi_getI (show decode cX1_takeBack 27 = .ok (.getfield 22, 3) by decide +kernel) xft_1_22 rfl h
theorem pX1_takeBack_30 : xX E mX1_takeBack 30 [l0, l1] (.int y :: .int x :: st) S V Q ↔ xX E mX1_takeBack 31 [l0, l1] (.int (x + y) :: st) S V Q := xi (show decode cX1_takeBack 30 = .ok (.iadd, 1) by decide +kernel) rfl
theorem pX1_takeBack_31 : xX E mX1_takeBack 31 [l0, l1] st S V Q ↔ xX E mX1_takeBack 33 [l0, l1] (.int (nI 6) :: st) S V Q := xi (show decode cX1_takeBack 31 = .ok (.bipush 6, 2) by decide +kernel) rfl
theorem pX1_takeBack_33i (h : ¬ y = 0) : xX E mX1_takeBack 33 [l0, l1] (.int y :: .int x :: st) S V Q ↔ xX E mX1_takeBack 34 [l0, l1] (.int (x - x / y * y) :: st) S V Q := xi_remG (show decode cX1_takeBack 33 = .ok (.irem, 1) by decide +kernel) h
theorem pX1_takeBack_33 (h0 : 0 < b) (ha : a < 2147483648) (hb : b < 2147483648) : xX E mX1_takeBack 33 [l0, l1] (.int (nI b) :: .int (nI a) :: st) S V Q ↔ xX E mX1_takeBack 34 [l0, l1] (.int (nI (a % b)) :: st) S V Q := xi_rem (show decode cX1_takeBack 33 = .ok (.irem, 1) by decide +kernel) h0 ha hb
theorem pX1_takeBack_34 (h : xkd S a = 10 ∨ xkd S a = 11) (hi : b < xln S a) (hn : xln S a < 2147483648) : xX E mX1_takeBack 34 [l0, l1] (.int (nI b) :: .ref a :: st) S V Q ↔ xX E mX1_takeBack 35 [l0, l1] (va_rf (xrf S a b) :: st) S V Q := xi_aald (show decode cX1_takeBack 34 = .ok (.aaload, 1) by decide +kernel) h hi hn
theorem pX1_takeBack_35 {a1 : Nat} (h : xkd S a = 3) (hc : xcat st ≤ 8) : xX E mX1_takeBack 35 [l0, l1] (.ref a1 :: .ref a :: st) S V Q ↔ xC E mX2_copyFrom [.ref a, .ref a1] S V (fun v S V => xX E mX1_takeBack 38 [l0, l1] (v.toList ++ st) S V Q) := xi_callV (as := [.ref a1]) (show decode cX1_takeBack 35 = .ok (.invokevirtual 25, 3) by decide +kernel) xct_1_25 rfl rfl (by decide) (Nat.le_of_ble_eq_true rfl) rfl h hc
theorem pX1_takeBack_38 : xX E mX1_takeBack 38 [l0, l1] [] S V Q ↔ Q none S V := xi_retV (show decode cX1_takeBack 38 = .ok (.return_, 1) by decide +kernel) rfl
-- TurnSlots$Machine.ringSet()I
theorem pX2_ringSet_0 : xX E mX2_ringSet 0 [some (.ref a), l1, l2, l3] st S V Q ↔ xX E mX2_ringSet 1 [some (.ref a), l1, l2, l3] (.ref a :: st) S V Q := xi (show decode cX2_ringSet 0 = .ok (.aload_n 0, 1) by decide +kernel) rfl
theorem pX2_ringSet_1  (h : xkd S a = 3) (hc : xcat st ≤ 8) : xX E mX2_ringSet 1 [l0, l1, l2, l3] (.ref a :: st) S V Q ↔ xC E mX2_findAllWaits [.ref a] S V (fun v S V => xX E mX2_ringSet 4 [l0, l1, l2, l3] (v.toList ++ st) S V Q) := xi_callV (as := []) (show decode cX2_ringSet 1 = .ok (.invokevirtual 86, 3) by decide +kernel) xct_2_86 rfl rfl (by decide) (Nat.le_of_ble_eq_true rfl) rfl h hc
theorem pX2_ringSet_4 (h : xnl l0 = true) : xX E mX2_ringSet 4 [l0, l1, l2, l3] (.ref a :: st) S V Q ↔ xX E mX2_ringSet 5 [l0, some (.ref a), l2, l3] st S V Q := xi_st1 (j := 0) (v := .ref a) (show decode cX2_ringSet 4 = .ok (.astore_n 1, 1) by decide +kernel) rfl h rfl rfl
theorem pX2_ringSet_5 : xX E mX2_ringSet 5 [l0, l1, l2, l3] st S V Q ↔ xX E mX2_ringSet 6 [l0, l1, l2, l3] (.int (nI 0) :: st) S V Q := xi (show decode cX2_ringSet 5 = .ok (.iconst 0, 1) by decide +kernel) rfl
theorem pX2_ringSet_6 (h : xnl l1 = true) : xX E mX2_ringSet 6 [l0, l1, l2, l3] (.int x :: st) S V Q ↔ xX E mX2_ringSet 7 [l0, l1, some (.int x), l3] st S V Q := xi_st1 (j := 1) (v := .int x) (show decode cX2_ringSet 6 = .ok (.istore_n 2, 1) by decide +kernel) rfl h rfl rfl
theorem pX2_ringSet_7 : xX E mX2_ringSet 7 [l0, l1, l2, l3] st S V Q ↔ xX E mX2_ringSet 8 [l0, l1, l2, l3] (.int (nI 0) :: st) S V Q := xi (show decode cX2_ringSet 7 = .ok (.iconst 0, 1) by decide +kernel) rfl
theorem pX2_ringSet_8 (h : xnl l2 = true) : xX E mX2_ringSet 8 [l0, l1, l2, l3] (.int x :: st) S V Q ↔ xX E mX2_ringSet 9 [l0, l1, l2, some (.int x)] st S V Q := xi_st1 (j := 2) (v := .int x) (show decode cX2_ringSet 8 = .ok (.istore_n 3, 1) by decide +kernel) rfl h rfl rfl
theorem pX2_ringSet_9 : xX E mX2_ringSet 9 [l0, l1, l2, some (.int x)] st S V Q ↔ xX E mX2_ringSet 10 [l0, l1, l2, some (.int x)] (.int x :: st) S V Q := xi (show decode cX2_ringSet 9 = .ok (.iload_n 3, 1) by decide +kernel) rfl
theorem pX2_ringSet_10 : xX E mX2_ringSet 10 [l0, l1, l2, l3] st S V Q ↔ xX E mX2_ringSet 12 [l0, l1, l2, l3] (.int (nI 8) :: st) S V Q := xi (show decode cX2_ringSet 10 = .ok (.bipush 8, 2) by decide +kernel) rfl
theorem pX2_ringSet_12 : xX E mX2_ringSet 12 [l0, l1, l2, l3] (.int y :: .int x :: st) S V Q ↔ if y ≤ x then xX E mX2_ringSet 31 [l0, l1, l2, l3] st S V Q else xX E mX2_ringSet 15 [l0, l1, l2, l3] st S V Q := xi_icmp (show decode cX2_ringSet 12 = .ok (.if_icmp .ge 19, 3) by decide +kernel) (by decide) xcb_ge
theorem pX2_ringSet_15 : xX E mX2_ringSet 15 [l0, l1, some (.int x), l3] st S V Q ↔ xX E mX2_ringSet 16 [l0, l1, some (.int x), l3] (.int x :: st) S V Q := xi (show decode cX2_ringSet 15 = .ok (.iload_n 2, 1) by decide +kernel) rfl
theorem pX2_ringSet_16 : xX E mX2_ringSet 16 [l0, some (.ref a), l2, l3] st S V Q ↔ xX E mX2_ringSet 17 [l0, some (.ref a), l2, l3] (.ref a :: st) S V Q := xi (show decode cX2_ringSet 16 = .ok (.aload_n 1, 1) by decide +kernel) rfl
theorem pX2_ringSet_17 : xX E mX2_ringSet 17 [l0, l1, l2, some (.int x)] st S V Q ↔ xX E mX2_ringSet 18 [l0, l1, l2, some (.int x)] (.int x :: st) S V Q := xi (show decode cX2_ringSet 17 = .ok (.iload_n 3, 1) by decide +kernel) rfl
theorem pX2_ringSet_18 (h : xkd S a = 7 ∨ xkd S a = 14) (hi : b < xln S a) (hn : xln S a < 2147483648) : xX E mX2_ringSet 18 [l0, l1, l2, l3] (.int (nI b) :: .ref a :: st) S V Q ↔ xX E mX2_ringSet 19 [l0, l1, l2, l3] (.int (V a b) :: st) S V Q := xi_iald (show decode cX2_ringSet 18 = .ok (.iaload, 1) by decide +kernel) h hi hn
theorem pX2_ringSet_19 : xX E mX2_ringSet 19 [l0, l1, l2, l3] st S V Q ↔ xX E mX2_ringSet 20 [l0, l1, l2, l3] (.int (nI 1) :: st) S V Q := xi (show decode cX2_ringSet 19 = .ok (.iconst 1, 1) by decide +kernel) rfl
theorem pX2_ringSet_20 : xX E mX2_ringSet 20 [l0, l1, l2, some (.int x)] st S V Q ↔ xX E mX2_ringSet 21 [l0, l1, l2, some (.int x)] (.int x :: st) S V Q := xi (show decode cX2_ringSet 20 = .ok (.iload_n 3, 1) by decide +kernel) rfl
theorem pX2_ringSet_21 : xX E mX2_ringSet 21 [l0, l1, l2, l3] (.int y :: .int x :: st) S V Q ↔ xX E mX2_ringSet 22 [l0, l1, l2, l3] (.int (x <<< (y &&& 31)) :: st) S V Q := xi (show decode cX2_ringSet 21 = .ok (.ishl, 1) by decide +kernel) rfl
theorem pX2_ringSet_22 : xX E mX2_ringSet 22 [l0, l1, l2, l3] (.int y :: .int x :: st) S V Q ↔ xX E mX2_ringSet 23 [l0, l1, l2, l3] (.int (x &&& y) :: st) S V Q := xi (show decode cX2_ringSet 22 = .ok (.iand, 1) by decide +kernel) rfl
theorem pX2_ringSet_23 : xX E mX2_ringSet 23 [l0, l1, l2, l3] (.int y :: .int x :: st) S V Q ↔ xX E mX2_ringSet 24 [l0, l1, l2, l3] (.int (x ||| y) :: st) S V Q := xi (show decode cX2_ringSet 23 = .ok (.ior, 1) by decide +kernel) rfl
theorem pX2_ringSet_24 (h : xnl l1 = true) : xX E mX2_ringSet 24 [l0, l1, l2, l3] (.int x :: st) S V Q ↔ xX E mX2_ringSet 25 [l0, l1, some (.int x), l3] st S V Q := xi_st1 (j := 1) (v := .int x) (show decode cX2_ringSet 24 = .ok (.istore_n 2, 1) by decide +kernel) rfl h rfl rfl
theorem pX2_ringSet_25 (h : xnl l2 = true) : xX E mX2_ringSet 25 [l0, l1, l2, some (.int (nI a))] st S V Q ↔ xX E mX2_ringSet 28 [l0, l1, l2, some (.int (nI (a + 1)))] st S V Q := xi_iinc (j := 2) (show decode cX2_ringSet 25 = .ok (.iinc 3 1, 3) by decide +kernel) rfl h rfl (nI_add a 1) (Nat.le_of_ble_eq_true rfl) rfl
theorem pX2_ringSet_28 : xX E mX2_ringSet 28 [l0, l1, l2, l3] st S V Q ↔ xX E mX2_ringSet 9 [l0, l1, l2, l3] st S V Q := xi_goto (show decode cX2_ringSet 28 = .ok (.goto (-19), 3) by decide +kernel) (by decide)
theorem pX2_ringSet_31 : xX E mX2_ringSet 31 [l0, l1, some (.int x), l3] st S V Q ↔ xX E mX2_ringSet 32 [l0, l1, some (.int x), l3] (.int x :: st) S V Q := xi (show decode cX2_ringSet 31 = .ok (.iload_n 2, 1) by decide +kernel) rfl
theorem pX2_ringSet_32 : xX E mX2_ringSet 32 [l0, l1, l2, l3] [.int x] S V Q ↔ Q (some (.int x)) S V := xi_retI (show decode cX2_ringSet 32 = .ok (.ireturn, 1) by decide +kernel) rfl
-- TurnSlots$Machine.runnerInSlotOf(I)I
theorem pX2_runnerInSlotOf_0 : xX E mX2_runnerInSlotOf 0 [some (.ref a), l1, l2, l3, l4, l5, l6, l7, l8] st S V Q ↔ xX E mX2_runnerInSlotOf 1 [some (.ref a), l1, l2, l3, l4, l5, l6, l7, l8] (.ref a :: st) S V Q := xi (show decode cX2_runnerInSlotOf 0 = .ok (.aload_n 0, 1) by decide +kernel) rfl
theorem pX2_runnerInSlotOf_1 : xX E mX2_runnerInSlotOf 1 [l0, l1, l2, l3, l4, l5, l6, l7, l8] st S V Q ↔ xX E mX2_runnerInSlotOf 2 [l0, l1, l2, l3, l4, l5, l6, l7, l8] (.int (nI 1) :: st) S V Q := xi (show decode cX2_runnerInSlotOf 1 = .ok (.iconst 1, 1) by decide +kernel) rfl
theorem pX2_runnerInSlotOf_2 {x0 : Int32} (h : xkd S a = 3) (hc : xcat st ≤ 8) : xX E mX2_runnerInSlotOf 2 [l0, l1, l2, l3, l4, l5, l6, l7, l8] (.int x0 :: .ref a :: st) S V Q ↔ xC E mX2_setIn [.ref a, .int x0] S V (fun v S V => xX E mX2_runnerInSlotOf 5 [l0, l1, l2, l3, l4, l5, l6, l7, l8] (v.toList ++ st) S V Q) := xi_callV (as := [.int x0]) (show decode cX2_runnerInSlotOf 2 = .ok (.invokevirtual 113, 3) by decide +kernel) xct_2_113 rfl rfl (by decide) (Nat.le_of_ble_eq_true rfl) rfl h hc
theorem pX2_runnerInSlotOf_5 (h : xnl l1 = true) : xX E mX2_runnerInSlotOf 5 [l0, l1, l2, l3, l4, l5, l6, l7, l8] (.int x :: st) S V Q ↔ xX E mX2_runnerInSlotOf 6 [l0, l1, some (.int x), l3, l4, l5, l6, l7, l8] st S V Q := xi_st1 (j := 1) (v := .int x) (show decode cX2_runnerInSlotOf 5 = .ok (.istore_n 2, 1) by decide +kernel) rfl h rfl rfl
theorem pX2_runnerInSlotOf_6 : xX E mX2_runnerInSlotOf 6 [l0, l1, some (.int x), l3, l4, l5, l6, l7, l8] st S V Q ↔ xX E mX2_runnerInSlotOf 7 [l0, l1, some (.int x), l3, l4, l5, l6, l7, l8] (.int x :: st) S V Q := xi (show decode cX2_runnerInSlotOf 6 = .ok (.iload_n 2, 1) by decide +kernel) rfl
theorem pX2_runnerInSlotOf_7 : xX E mX2_runnerInSlotOf 7 [l0, l1, l2, l3, l4, l5, l6, l7, l8] (.int x :: st) S V Q ↔ if x = nI 0 then xX E mX2_runnerInSlotOf 18 [l0, l1, l2, l3, l4, l5, l6, l7, l8] st S V Q else xX E mX2_runnerInSlotOf 10 [l0, l1, l2, l3, l4, l5, l6, l7, l8] st S V Q := xi_if (show decode cX2_runnerInSlotOf 7 = .ok (.ifCond .eq 11, 3) by decide +kernel) (by decide) xcb_eq
theorem pX2_runnerInSlotOf_10 : xX E mX2_runnerInSlotOf 10 [l0, l1, some (.int x), l3, l4, l5, l6, l7, l8] st S V Q ↔ xX E mX2_runnerInSlotOf 11 [l0, l1, some (.int x), l3, l4, l5, l6, l7, l8] (.int x :: st) S V Q := xi (show decode cX2_runnerInSlotOf 10 = .ok (.iload_n 2, 1) by decide +kernel) rfl
theorem pX2_runnerInSlotOf_11 : xX E mX2_runnerInSlotOf 11 [l0, some (.int x), l2, l3, l4, l5, l6, l7, l8] st S V Q ↔ xX E mX2_runnerInSlotOf 12 [l0, some (.int x), l2, l3, l4, l5, l6, l7, l8] (.int x :: st) S V Q := xi (show decode cX2_runnerInSlotOf 11 = .ok (.iload_n 1, 1) by decide +kernel) rfl
theorem pX2_runnerInSlotOf_12 {x0 : Int32} {x1 : Int32} (hc : xcat st ≤ 8) : xX E mX2_runnerInSlotOf 12 [l0, l1, l2, l3, l4, l5, l6, l7, l8] (.int x1 :: .int x0 :: st) S V Q ↔ xC E mX4_has [.int x0, .int x1] S V (fun v S V => xX E mX2_runnerInSlotOf 15 [l0, l1, l2, l3, l4, l5, l6, l7, l8] (v.toList ++ st) S V Q) := xi_callS (as := [.int x0, .int x1]) (show decode cX2_runnerInSlotOf 12 = .ok (.invokestatic 67, 3) by decide +kernel) xct_2_67 (by decide) rfl rfl (by decide) (Nat.le_of_ble_eq_true rfl) hc
theorem pX2_runnerInSlotOf_15 : xX E mX2_runnerInSlotOf 15 [l0, l1, l2, l3, l4, l5, l6, l7, l8] (.int x :: st) S V Q ↔ if x = nI 0 then xX E mX2_runnerInSlotOf 29 [l0, l1, l2, l3, l4, l5, l6, l7, l8] st S V Q else xX E mX2_runnerInSlotOf 18 [l0, l1, l2, l3, l4, l5, l6, l7, l8] st S V Q := xi_if (show decode cX2_runnerInSlotOf 15 = .ok (.ifCond .eq 14, 3) by decide +kernel) (by decide) xcb_eq
theorem pX2_runnerInSlotOf_18 : xX E mX2_runnerInSlotOf 18 [l0, l1, some (.int x), l3, l4, l5, l6, l7, l8] st S V Q ↔ xX E mX2_runnerInSlotOf 19 [l0, l1, some (.int x), l3, l4, l5, l6, l7, l8] (.int x :: st) S V Q := xi (show decode cX2_runnerInSlotOf 18 = .ok (.iload_n 2, 1) by decide +kernel) rfl
theorem pX2_runnerInSlotOf_19 : xX E mX2_runnerInSlotOf 19 [l0, l1, l2, l3, l4, l5, l6, l7, l8] (.int x :: st) S V Q ↔ if ¬ x = nI 0 then xX E mX2_runnerInSlotOf 27 [l0, l1, l2, l3, l4, l5, l6, l7, l8] st S V Q else xX E mX2_runnerInSlotOf 22 [l0, l1, l2, l3, l4, l5, l6, l7, l8] st S V Q := xi_if (show decode cX2_runnerInSlotOf 19 = .ok (.ifCond .ne 8, 3) by decide +kernel) (by decide) xcb_ne
theorem pX2_runnerInSlotOf_22 : xX E mX2_runnerInSlotOf 22 [l0, l1, l2, l3, l4, l5, l6, l7, l8] st S V Q ↔ xX E mX2_runnerInSlotOf 24 [l0, l1, l2, l3, l4, l5, l6, l7, l8] (.int (-6) :: st) S V Q := xi (show decode cX2_runnerInSlotOf 22 = .ok (.bipush (-6), 2) by decide +kernel) rfl
theorem pX2_runnerInSlotOf_24 : xX E mX2_runnerInSlotOf 24 [l0, l1, l2, l3, l4, l5, l6, l7, l8] st S V Q ↔ xX E mX2_runnerInSlotOf 28 [l0, l1, l2, l3, l4, l5, l6, l7, l8] st S V Q := xi_goto (show decode cX2_runnerInSlotOf 24 = .ok (.goto 4, 3) by decide +kernel) (by decide)
theorem pX2_runnerInSlotOf_27 : xX E mX2_runnerInSlotOf 27 [l0, some (.int x), l2, l3, l4, l5, l6, l7, l8] st S V Q ↔ xX E mX2_runnerInSlotOf 28 [l0, some (.int x), l2, l3, l4, l5, l6, l7, l8] (.int x :: st) S V Q := xi (show decode cX2_runnerInSlotOf 27 = .ok (.iload_n 1, 1) by decide +kernel) rfl
theorem pX2_runnerInSlotOf_28 : xX E mX2_runnerInSlotOf 28 [l0, l1, l2, l3, l4, l5, l6, l7, l8] [.int x] S V Q ↔ Q (some (.int x)) S V := xi_retI (show decode cX2_runnerInSlotOf 28 = .ok (.ireturn, 1) by decide +kernel) rfl
theorem pX2_runnerInSlotOf_29 : xX E mX2_runnerInSlotOf 29 [some (.ref a), l1, l2, l3, l4, l5, l6, l7, l8] st S V Q ↔ xX E mX2_runnerInSlotOf 30 [some (.ref a), l1, l2, l3, l4, l5, l6, l7, l8] (.ref a :: st) S V Q := xi (show decode cX2_runnerInSlotOf 29 = .ok (.aload_n 0, 1) by decide +kernel) rfl
theorem pX2_runnerInSlotOf_30  (h : xkd S a = 3) (hc : xcat st ≤ 8) : xX E mX2_runnerInSlotOf 30 [l0, l1, l2, l3, l4, l5, l6, l7, l8] (.ref a :: st) S V Q ↔ xC E mX2_findAllWaits [.ref a] S V (fun v S V => xX E mX2_runnerInSlotOf 33 [l0, l1, l2, l3, l4, l5, l6, l7, l8] (v.toList ++ st) S V Q) := xi_callV (as := []) (show decode cX2_runnerInSlotOf 30 = .ok (.invokevirtual 86, 3) by decide +kernel) xct_2_86 rfl rfl (by decide) (Nat.le_of_ble_eq_true rfl) rfl h hc
theorem pX2_runnerInSlotOf_33 (h : xnl l2 = true) : xX E mX2_runnerInSlotOf 33 [l0, l1, l2, l3, l4, l5, l6, l7, l8] (.ref a :: st) S V Q ↔ xX E mX2_runnerInSlotOf 34 [l0, l1, l2, some (.ref a), l4, l5, l6, l7, l8] st S V Q := xi_st1 (j := 2) (v := .ref a) (show decode cX2_runnerInSlotOf 33 = .ok (.astore_n 3, 1) by decide +kernel) rfl h rfl rfl
theorem pX2_runnerInSlotOf_34 : xX E mX2_runnerInSlotOf 34 [l0, l1, l2, l3, l4, l5, l6, l7, l8] st S V Q ↔ xX E mX2_runnerInSlotOf 36 [l0, l1, l2, l3, l4, l5, l6, l7, l8] (.int (-6) :: st) S V Q := xi (show decode cX2_runnerInSlotOf 34 = .ok (.bipush (-6), 2) by decide +kernel) rfl
theorem pX2_runnerInSlotOf_36 (h : xnl l3 = true) : xX E mX2_runnerInSlotOf 36 [l0, l1, l2, l3, l4, l5, l6, l7, l8] (.int x :: st) S V Q ↔ xX E mX2_runnerInSlotOf 38 [l0, l1, l2, l3, some (.int x), l5, l6, l7, l8] st S V Q := xi_st1 (j := 3) (v := .int x) (show decode cX2_runnerInSlotOf 36 = .ok (.istore 4, 2) by decide +kernel) rfl h rfl rfl
theorem pX2_runnerInSlotOf_38 : xX E mX2_runnerInSlotOf 38 [l0, l1, l2, l3, l4, l5, l6, l7, l8] st S V Q ↔ xX E mX2_runnerInSlotOf 39 [l0, l1, l2, l3, l4, l5, l6, l7, l8] (.int (-1) :: st) S V Q := xi (show decode cX2_runnerInSlotOf 38 = .ok (.iconst (-1), 1) by decide +kernel) rfl
theorem pX2_runnerInSlotOf_39 (h : xnl l4 = true) : xX E mX2_runnerInSlotOf 39 [l0, l1, l2, l3, l4, l5, l6, l7, l8] (.int x :: st) S V Q ↔ xX E mX2_runnerInSlotOf 41 [l0, l1, l2, l3, l4, some (.int x), l6, l7, l8] st S V Q := xi_st1 (j := 4) (v := .int x) (show decode cX2_runnerInSlotOf 39 = .ok (.istore 5, 2) by decide +kernel) rfl h rfl rfl
theorem pX2_runnerInSlotOf_41 : xX E mX2_runnerInSlotOf 41 [l0, l1, l2, l3, l4, l5, l6, l7, l8] st S V Q ↔ xX E mX2_runnerInSlotOf 42 [l0, l1, l2, l3, l4, l5, l6, l7, l8] (.int (nI 1) :: st) S V Q := xi (show decode cX2_runnerInSlotOf 41 = .ok (.iconst 1, 1) by decide +kernel) rfl
theorem pX2_runnerInSlotOf_42 (h : xnl l5 = true) : xX E mX2_runnerInSlotOf 42 [l0, l1, l2, l3, l4, l5, l6, l7, l8] (.int x :: st) S V Q ↔ xX E mX2_runnerInSlotOf 44 [l0, l1, l2, l3, l4, l5, some (.int x), l7, l8] st S V Q := xi_st1 (j := 5) (v := .int x) (show decode cX2_runnerInSlotOf 42 = .ok (.istore 6, 2) by decide +kernel) rfl h rfl rfl
theorem pX2_runnerInSlotOf_44 : xX E mX2_runnerInSlotOf 44 [l0, l1, l2, l3, l4, l5, some (.int x), l7, l8] st S V Q ↔ xX E mX2_runnerInSlotOf 46 [l0, l1, l2, l3, l4, l5, some (.int x), l7, l8] (.int x :: st) S V Q := xi (show decode cX2_runnerInSlotOf 44 = .ok (.iload 6, 2) by decide +kernel) rfl
theorem pX2_runnerInSlotOf_46 : xX E mX2_runnerInSlotOf 46 [l0, l1, l2, l3, l4, l5, l6, l7, l8] st S V Q ↔ xX E mX2_runnerInSlotOf 48 [l0, l1, l2, l3, l4, l5, l6, l7, l8] (.int (nI 8) :: st) S V Q := xi (show decode cX2_runnerInSlotOf 46 = .ok (.bipush 8, 2) by decide +kernel) rfl
theorem pX2_runnerInSlotOf_48 : xX E mX2_runnerInSlotOf 48 [l0, l1, l2, l3, l4, l5, l6, l7, l8] (.int y :: .int x :: st) S V Q ↔ if y ≤ x then xX E mX2_runnerInSlotOf 99 [l0, l1, l2, l3, l4, l5, l6, l7, l8] st S V Q else xX E mX2_runnerInSlotOf 51 [l0, l1, l2, l3, l4, l5, l6, l7, l8] st S V Q := xi_icmp (show decode cX2_runnerInSlotOf 48 = .ok (.if_icmp .ge 51, 3) by decide +kernel) (by decide) xcb_ge
theorem pX2_runnerInSlotOf_51 : xX E mX2_runnerInSlotOf 51 [l0, some (.int x), l2, l3, l4, l5, l6, l7, l8] st S V Q ↔ xX E mX2_runnerInSlotOf 52 [l0, some (.int x), l2, l3, l4, l5, l6, l7, l8] (.int x :: st) S V Q := xi (show decode cX2_runnerInSlotOf 51 = .ok (.iload_n 1, 1) by decide +kernel) rfl
theorem pX2_runnerInSlotOf_52 : xX E mX2_runnerInSlotOf 52 [l0, l1, l2, l3, l4, l5, some (.int x), l7, l8] st S V Q ↔ xX E mX2_runnerInSlotOf 54 [l0, l1, l2, l3, l4, l5, some (.int x), l7, l8] (.int x :: st) S V Q := xi (show decode cX2_runnerInSlotOf 52 = .ok (.iload 6, 2) by decide +kernel) rfl
theorem pX2_runnerInSlotOf_54 : xX E mX2_runnerInSlotOf 54 [l0, l1, l2, l3, l4, l5, l6, l7, l8] (.int y :: .int x :: st) S V Q ↔ xX E mX2_runnerInSlotOf 55 [l0, l1, l2, l3, l4, l5, l6, l7, l8] (.int (x + y) :: st) S V Q := xi (show decode cX2_runnerInSlotOf 54 = .ok (.iadd, 1) by decide +kernel) rfl
theorem pX2_runnerInSlotOf_55 : xX E mX2_runnerInSlotOf 55 [l0, l1, l2, l3, l4, l5, l6, l7, l8] st S V Q ↔ xX E mX2_runnerInSlotOf 57 [l0, l1, l2, l3, l4, l5, l6, l7, l8] (.int (nI 8) :: st) S V Q := xi (show decode cX2_runnerInSlotOf 55 = .ok (.bipush 8, 2) by decide +kernel) rfl
theorem pX2_runnerInSlotOf_57i (h : ¬ y = 0) : xX E mX2_runnerInSlotOf 57 [l0, l1, l2, l3, l4, l5, l6, l7, l8] (.int y :: .int x :: st) S V Q ↔ xX E mX2_runnerInSlotOf 58 [l0, l1, l2, l3, l4, l5, l6, l7, l8] (.int (x - x / y * y) :: st) S V Q := xi_remG (show decode cX2_runnerInSlotOf 57 = .ok (.irem, 1) by decide +kernel) h
theorem pX2_runnerInSlotOf_57 (h0 : 0 < b) (ha : a < 2147483648) (hb : b < 2147483648) : xX E mX2_runnerInSlotOf 57 [l0, l1, l2, l3, l4, l5, l6, l7, l8] (.int (nI b) :: .int (nI a) :: st) S V Q ↔ xX E mX2_runnerInSlotOf 58 [l0, l1, l2, l3, l4, l5, l6, l7, l8] (.int (nI (a % b)) :: st) S V Q := xi_rem (show decode cX2_runnerInSlotOf 57 = .ok (.irem, 1) by decide +kernel) h0 ha hb
theorem pX2_runnerInSlotOf_58 (h : xnl l6 = true) : xX E mX2_runnerInSlotOf 58 [l0, l1, l2, l3, l4, l5, l6, l7, l8] (.int x :: st) S V Q ↔ xX E mX2_runnerInSlotOf 60 [l0, l1, l2, l3, l4, l5, l6, some (.int x), l8] st S V Q := xi_st1 (j := 6) (v := .int x) (show decode cX2_runnerInSlotOf 58 = .ok (.istore 7, 2) by decide +kernel) rfl h rfl rfl
theorem pX2_runnerInSlotOf_60 : xX E mX2_runnerInSlotOf 60 [some (.ref a), l1, l2, l3, l4, l5, l6, l7, l8] st S V Q ↔ xX E mX2_runnerInSlotOf 61 [some (.ref a), l1, l2, l3, l4, l5, l6, l7, l8] (.ref a :: st) S V Q := xi (show decode cX2_runnerInSlotOf 60 = .ok (.aload_n 0, 1) by decide +kernel) rfl
theorem pX2_runnerInSlotOf_61 : xX E mX2_runnerInSlotOf 61 [l0, l1, l2, l3, l4, l5, l6, some (.int x), l8] st S V Q ↔ xX E mX2_runnerInSlotOf 63 [l0, l1, l2, l3, l4, l5, l6, some (.int x), l8] (.int x :: st) S V Q := xi (show decode cX2_runnerInSlotOf 61 = .ok (.iload 7, 2) by decide +kernel) rfl
theorem pX2_runnerInSlotOf_63 : xX E mX2_runnerInSlotOf 63 [l0, l1, l2, some (.ref a), l4, l5, l6, l7, l8] st S V Q ↔ xX E mX2_runnerInSlotOf 64 [l0, l1, l2, some (.ref a), l4, l5, l6, l7, l8] (.ref a :: st) S V Q := xi (show decode cX2_runnerInSlotOf 63 = .ok (.aload_n 3, 1) by decide +kernel) rfl
theorem pX2_runnerInSlotOf_64 {x0 : Int32} {a1 : Nat} (h : xkd S a = 3) (hc : xcat st ≤ 8) : xX E mX2_runnerInSlotOf 64 [l0, l1, l2, l3, l4, l5, l6, l7, l8] (.ref a1 :: .int x0 :: .ref a :: st) S V Q ↔ xC E mX2_lentPriority [.ref a, .int x0, .ref a1] S V (fun v S V => xX E mX2_runnerInSlotOf 67 [l0, l1, l2, l3, l4, l5, l6, l7, l8] (v.toList ++ st) S V Q) := xi_callV (as := [.int x0, .ref a1]) (show decode cX2_runnerInSlotOf 64 = .ok (.invokevirtual 116, 3) by decide +kernel) xct_2_116 rfl rfl (by decide) (Nat.le_of_ble_eq_true rfl) rfl h hc
theorem pX2_runnerInSlotOf_67 (h : xnl l7 = true) : xX E mX2_runnerInSlotOf 67 [l0, l1, l2, l3, l4, l5, l6, l7, l8] (.int x :: st) S V Q ↔ xX E mX2_runnerInSlotOf 69 [l0, l1, l2, l3, l4, l5, l6, l7, some (.int x)] st S V Q := xi_st1 (j := 7) (v := .int x) (show decode cX2_runnerInSlotOf 67 = .ok (.istore 8, 2) by decide +kernel) rfl h rfl rfl
theorem pX2_runnerInSlotOf_69 : xX E mX2_runnerInSlotOf 69 [l0, l1, some (.int x), l3, l4, l5, l6, l7, l8] st S V Q ↔ xX E mX2_runnerInSlotOf 70 [l0, l1, some (.int x), l3, l4, l5, l6, l7, l8] (.int x :: st) S V Q := xi (show decode cX2_runnerInSlotOf 69 = .ok (.iload_n 2, 1) by decide +kernel) rfl
theorem pX2_runnerInSlotOf_70 : xX E mX2_runnerInSlotOf 70 [l0, l1, l2, l3, l4, l5, l6, some (.int x), l8] st S V Q ↔ xX E mX2_runnerInSlotOf 72 [l0, l1, l2, l3, l4, l5, l6, some (.int x), l8] (.int x :: st) S V Q := xi (show decode cX2_runnerInSlotOf 70 = .ok (.iload 7, 2) by decide +kernel) rfl
theorem pX2_runnerInSlotOf_72 {x0 : Int32} {x1 : Int32} (hc : xcat st ≤ 8) : xX E mX2_runnerInSlotOf 72 [l0, l1, l2, l3, l4, l5, l6, l7, l8] (.int x1 :: .int x0 :: st) S V Q ↔ xC E mX4_has [.int x0, .int x1] S V (fun v S V => xX E mX2_runnerInSlotOf 75 [l0, l1, l2, l3, l4, l5, l6, l7, l8] (v.toList ++ st) S V Q) := xi_callS (as := [.int x0, .int x1]) (show decode cX2_runnerInSlotOf 72 = .ok (.invokestatic 67, 3) by decide +kernel) xct_2_67 (by decide) rfl rfl (by decide) (Nat.le_of_ble_eq_true rfl) hc
theorem pX2_runnerInSlotOf_75 : xX E mX2_runnerInSlotOf 75 [l0, l1, l2, l3, l4, l5, l6, l7, l8] (.int x :: st) S V Q ↔ if x = nI 0 then xX E mX2_runnerInSlotOf 93 [l0, l1, l2, l3, l4, l5, l6, l7, l8] st S V Q else xX E mX2_runnerInSlotOf 78 [l0, l1, l2, l3, l4, l5, l6, l7, l8] st S V Q := xi_if (show decode cX2_runnerInSlotOf 75 = .ok (.ifCond .eq 18, 3) by decide +kernel) (by decide) xcb_eq
theorem pX2_runnerInSlotOf_78 : xX E mX2_runnerInSlotOf 78 [l0, l1, l2, l3, l4, l5, l6, l7, some (.int x)] st S V Q ↔ xX E mX2_runnerInSlotOf 80 [l0, l1, l2, l3, l4, l5, l6, l7, some (.int x)] (.int x :: st) S V Q := xi (show decode cX2_runnerInSlotOf 78 = .ok (.iload 8, 2) by decide +kernel) rfl
theorem pX2_runnerInSlotOf_80 : xX E mX2_runnerInSlotOf 80 [l0, l1, l2, l3, l4, some (.int x), l6, l7, l8] st S V Q ↔ xX E mX2_runnerInSlotOf 82 [l0, l1, l2, l3, l4, some (.int x), l6, l7, l8] (.int x :: st) S V Q := xi (show decode cX2_runnerInSlotOf 80 = .ok (.iload 5, 2) by decide +kernel) rfl
theorem pX2_runnerInSlotOf_82 : xX E mX2_runnerInSlotOf 82 [l0, l1, l2, l3, l4, l5, l6, l7, l8] (.int y :: .int x :: st) S V Q ↔ if x ≤ y then xX E mX2_runnerInSlotOf 93 [l0, l1, l2, l3, l4, l5, l6, l7, l8] st S V Q else xX E mX2_runnerInSlotOf 85 [l0, l1, l2, l3, l4, l5, l6, l7, l8] st S V Q := xi_icmp (show decode cX2_runnerInSlotOf 82 = .ok (.if_icmp .le 11, 3) by decide +kernel) (by decide) xcb_le
theorem pX2_runnerInSlotOf_85 : xX E mX2_runnerInSlotOf 85 [l0, l1, l2, l3, l4, l5, l6, some (.int x), l8] st S V Q ↔ xX E mX2_runnerInSlotOf 87 [l0, l1, l2, l3, l4, l5, l6, some (.int x), l8] (.int x :: st) S V Q := xi (show decode cX2_runnerInSlotOf 85 = .ok (.iload 7, 2) by decide +kernel) rfl
theorem pX2_runnerInSlotOf_87 (h : xnl l3 = true) : xX E mX2_runnerInSlotOf 87 [l0, l1, l2, l3, l4, l5, l6, l7, l8] (.int x :: st) S V Q ↔ xX E mX2_runnerInSlotOf 89 [l0, l1, l2, l3, some (.int x), l5, l6, l7, l8] st S V Q := xi_st1 (j := 3) (v := .int x) (show decode cX2_runnerInSlotOf 87 = .ok (.istore 4, 2) by decide +kernel) rfl h rfl rfl
theorem pX2_runnerInSlotOf_89 : xX E mX2_runnerInSlotOf 89 [l0, l1, l2, l3, l4, l5, l6, l7, some (.int x)] st S V Q ↔ xX E mX2_runnerInSlotOf 91 [l0, l1, l2, l3, l4, l5, l6, l7, some (.int x)] (.int x :: st) S V Q := xi (show decode cX2_runnerInSlotOf 89 = .ok (.iload 8, 2) by decide +kernel) rfl
theorem pX2_runnerInSlotOf_91 (h : xnl l4 = true) : xX E mX2_runnerInSlotOf 91 [l0, l1, l2, l3, l4, l5, l6, l7, l8] (.int x :: st) S V Q ↔ xX E mX2_runnerInSlotOf 93 [l0, l1, l2, l3, l4, some (.int x), l6, l7, l8] st S V Q := xi_st1 (j := 4) (v := .int x) (show decode cX2_runnerInSlotOf 91 = .ok (.istore 5, 2) by decide +kernel) rfl h rfl rfl
theorem pX2_runnerInSlotOf_93 (h : xnl l5 = true) : xX E mX2_runnerInSlotOf 93 [l0, l1, l2, l3, l4, l5, some (.int (nI a)), l7, l8] st S V Q ↔ xX E mX2_runnerInSlotOf 96 [l0, l1, l2, l3, l4, l5, some (.int (nI (a + 1))), l7, l8] st S V Q := xi_iinc (j := 5) (show decode cX2_runnerInSlotOf 93 = .ok (.iinc 6 1, 3) by decide +kernel) rfl h rfl (nI_add a 1) (Nat.le_of_ble_eq_true rfl) rfl
theorem pX2_runnerInSlotOf_96 : xX E mX2_runnerInSlotOf 96 [l0, l1, l2, l3, l4, l5, l6, l7, l8] st S V Q ↔ xX E mX2_runnerInSlotOf 44 [l0, l1, l2, l3, l4, l5, l6, l7, l8] st S V Q := xi_goto (show decode cX2_runnerInSlotOf 96 = .ok (.goto (-52), 3) by decide +kernel) (by decide)
theorem pX2_runnerInSlotOf_99 : xX E mX2_runnerInSlotOf 99 [l0, l1, l2, l3, some (.int x), l5, l6, l7, l8] st S V Q ↔ xX E mX2_runnerInSlotOf 101 [l0, l1, l2, l3, some (.int x), l5, l6, l7, l8] (.int x :: st) S V Q := xi (show decode cX2_runnerInSlotOf 99 = .ok (.iload 4, 2) by decide +kernel) rfl
theorem pX2_runnerInSlotOf_101 : xX E mX2_runnerInSlotOf 101 [l0, l1, l2, l3, l4, l5, l6, l7, l8] [.int x] S V Q ↔ Q (some (.int x)) S V := xi_retI (show decode cX2_runnerInSlotOf 101 = .ok (.ireturn, 1) by decide +kernel) rfl
-- TurnSlots$Machine.passSlot()I
theorem pX2_passSlot_0 : xX E mX2_passSlot 0 [some (.ref a), l1, l2] st S V Q ↔ xX E mX2_passSlot 1 [some (.ref a), l1, l2] (.ref a :: st) S V Q := xi (show decode cX2_passSlot 0 = .ok (.aload_n 0, 1) by decide +kernel) rfl
theorem pX2_passSlot_1 (h : xkd S a = 3) : xX E mX2_passSlot 1 [l0, l1, l2] (.ref a :: st) S V Q ↔ xX E mX2_passSlot 4 [l0, l1, l2] (.int (V a 3) :: st) S V Q := xi_getI (show decode cX2_passSlot 1 = .ok (.getfield 35, 3) by decide +kernel) xft_2_35 rfl h
theorem pX2_passSlot_4 : xX E mX2_passSlot 4 [l0, l1, l2] st S V Q ↔ xX E mX2_passSlot 6 [l0, l1, l2] (.int (nI 8) :: st) S V Q := xi (show decode cX2_passSlot 4 = .ok (.bipush 8, 2) by decide +kernel) rfl
theorem pX2_passSlot_6i (h : ¬ y = 0) : xX E mX2_passSlot 6 [l0, l1, l2] (.int y :: .int x :: st) S V Q ↔ xX E mX2_passSlot 7 [l0, l1, l2] (.int (x - x / y * y) :: st) S V Q := xi_remG (show decode cX2_passSlot 6 = .ok (.irem, 1) by decide +kernel) h
theorem pX2_passSlot_6 (h0 : 0 < b) (ha : a < 2147483648) (hb : b < 2147483648) : xX E mX2_passSlot 6 [l0, l1, l2] (.int (nI b) :: .int (nI a) :: st) S V Q ↔ xX E mX2_passSlot 7 [l0, l1, l2] (.int (nI (a % b)) :: st) S V Q := xi_rem (show decode cX2_passSlot 6 = .ok (.irem, 1) by decide +kernel) h0 ha hb
theorem pX2_passSlot_7 (h : xnl l0 = true) : xX E mX2_passSlot 7 [l0, l1, l2] (.int x :: st) S V Q ↔ xX E mX2_passSlot 8 [l0, some (.int x), l2] st S V Q := xi_st1 (j := 0) (v := .int x) (show decode cX2_passSlot 7 = .ok (.istore_n 1, 1) by decide +kernel) rfl h rfl rfl
theorem pX2_passSlot_8 : xX E mX2_passSlot 8 [some (.ref a), l1, l2] st S V Q ↔ xX E mX2_passSlot 9 [some (.ref a), l1, l2] (.ref a :: st) S V Q := xi (show decode cX2_passSlot 8 = .ok (.aload_n 0, 1) by decide +kernel) rfl
theorem pX2_passSlot_9 : xX E mX2_passSlot 9 [l0, l1, l2] (.ref a :: st) S V Q ↔ xX E mX2_passSlot 10 [l0, l1, l2] (.ref a :: .ref a :: st) S V Q := xi (show decode cX2_passSlot 9 = .ok (.dup, 1) by decide +kernel) rfl
theorem pX2_passSlot_9i : xX E mX2_passSlot 9 [l0, l1, l2] (.int x :: st) S V Q ↔ xX E mX2_passSlot 10 [l0, l1, l2] (.int x :: .int x :: st) S V Q := xi (show decode cX2_passSlot 9 = .ok (.dup, 1) by decide +kernel) rfl
theorem pX2_passSlot_10 (h : xkd S a = 3) : xX E mX2_passSlot 10 [l0, l1, l2] (.ref a :: st) S V Q ↔ xX E mX2_passSlot 13 [l0, l1, l2] (.int (V a 3) :: st) S V Q := xi_getI (show decode cX2_passSlot 10 = .ok (.getfield 35, 3) by decide +kernel) xft_2_35 rfl h
theorem pX2_passSlot_13 : xX E mX2_passSlot 13 [l0, l1, l2] st S V Q ↔ xX E mX2_passSlot 14 [l0, l1, l2] (.int (nI 1) :: st) S V Q := xi (show decode cX2_passSlot 13 = .ok (.iconst 1, 1) by decide +kernel) rfl
theorem pX2_passSlot_14 : xX E mX2_passSlot 14 [l0, l1, l2] (.int y :: .int x :: st) S V Q ↔ xX E mX2_passSlot 15 [l0, l1, l2] (.int (x + y) :: st) S V Q := xi (show decode cX2_passSlot 14 = .ok (.iadd, 1) by decide +kernel) rfl
theorem pX2_passSlot_15 (h : xkd S a = 3) : xX E mX2_passSlot 15 [l0, l1, l2] (.int x :: .ref a :: st) S V Q ↔ xX E mX2_passSlot 18 [l0, l1, l2] st S (xup V a 3 x) Q := xi_putI (show decode cX2_passSlot 15 = .ok (.putfield 35, 3) by decide +kernel) xft_2_35 (by decide) rfl rfl h
theorem pX2_passSlot_18 : xX E mX2_passSlot 18 [l0, l1, l2] st S V Q ↔ xX E mX2_passSlot 19 [l0, l1, l2] (.int (nI 0) :: st) S V Q := xi (show decode cX2_passSlot 18 = .ok (.iconst 0, 1) by decide +kernel) rfl
theorem pX2_passSlot_19 (h : xnl l1 = true) : xX E mX2_passSlot 19 [l0, l1, l2] (.int x :: st) S V Q ↔ xX E mX2_passSlot 20 [l0, l1, some (.int x)] st S V Q := xi_st1 (j := 1) (v := .int x) (show decode cX2_passSlot 19 = .ok (.istore_n 2, 1) by decide +kernel) rfl h rfl rfl
theorem pX2_passSlot_20 : xX E mX2_passSlot 20 [l0, l1, some (.int x)] st S V Q ↔ xX E mX2_passSlot 21 [l0, l1, some (.int x)] (.int x :: st) S V Q := xi (show decode cX2_passSlot 20 = .ok (.iload_n 2, 1) by decide +kernel) rfl
theorem pX2_passSlot_21 : xX E mX2_passSlot 21 [l0, l1, l2] st S V Q ↔ xX E mX2_passSlot 23 [l0, l1, l2] (.int (nI 8) :: st) S V Q := xi (show decode cX2_passSlot 21 = .ok (.bipush 8, 2) by decide +kernel) rfl
theorem pX2_passSlot_23 : xX E mX2_passSlot 23 [l0, l1, l2] (.int y :: .int x :: st) S V Q ↔ if y ≤ x then xX E mX2_passSlot 56 [l0, l1, l2] st S V Q else xX E mX2_passSlot 26 [l0, l1, l2] st S V Q := xi_icmp (show decode cX2_passSlot 23 = .ok (.if_icmp .ge 33, 3) by decide +kernel) (by decide) xcb_ge
theorem pX2_passSlot_26 : xX E mX2_passSlot 26 [some (.ref a), l1, l2] st S V Q ↔ xX E mX2_passSlot 27 [some (.ref a), l1, l2] (.ref a :: st) S V Q := xi (show decode cX2_passSlot 26 = .ok (.aload_n 0, 1) by decide +kernel) rfl
theorem pX2_passSlot_27 (h : xkd S a = 3) : xX E mX2_passSlot 27 [l0, l1, l2] (.ref a :: st) S V Q ↔ xX E mX2_passSlot 30 [l0, l1, l2] (va_rf (xrf S a 0) :: st) S V Q := xi_getR (show decode cX2_passSlot 27 = .ok (.getfield 11, 3) by decide +kernel) xft_2_11 rfl h
theorem pX2_passSlot_30 : xX E mX2_passSlot 30 [l0, l1, some (.int x)] st S V Q ↔ xX E mX2_passSlot 31 [l0, l1, some (.int x)] (.int x :: st) S V Q := xi (show decode cX2_passSlot 30 = .ok (.iload_n 2, 1) by decide +kernel) rfl
theorem pX2_passSlot_31 (h : xkd S a = 10 ∨ xkd S a = 11) (hi : b < xln S a) (hn : xln S a < 2147483648) : xX E mX2_passSlot 31 [l0, l1, l2] (.int (nI b) :: .ref a :: st) S V Q ↔ xX E mX2_passSlot 32 [l0, l1, l2] (va_rf (xrf S a b) :: st) S V Q := xi_aald (show decode cX2_passSlot 31 = .ok (.aaload, 1) by decide +kernel) h hi hn
theorem pX2_passSlot_32 : xX E mX2_passSlot 32 [l0, l1, l2] st S V Q ↔ xX E mX2_passSlot 33 [l0, l1, l2] (.int (nI 0) :: st) S V Q := xi (show decode cX2_passSlot 32 = .ok (.iconst 0, 1) by decide +kernel) rfl
theorem pX2_passSlot_33 : xX E mX2_passSlot 33 [some (.ref a), l1, l2] st S V Q ↔ xX E mX2_passSlot 34 [some (.ref a), l1, l2] (.ref a :: st) S V Q := xi (show decode cX2_passSlot 33 = .ok (.aload_n 0, 1) by decide +kernel) rfl
theorem pX2_passSlot_34 (h : xkd S a = 3) : xX E mX2_passSlot 34 [l0, l1, l2] (.ref a :: st) S V Q ↔ xX E mX2_passSlot 37 [l0, l1, l2] (va_rf (xrf S a 0) :: st) S V Q := xi_getR (show decode cX2_passSlot 34 = .ok (.getfield 11, 3) by decide +kernel) xft_2_11 rfl h
theorem pX2_passSlot_37 : xX E mX2_passSlot 37 [l0, l1, some (.int x)] st S V Q ↔ xX E mX2_passSlot 38 [l0, l1, some (.int x)] (.int x :: st) S V Q := xi (show decode cX2_passSlot 37 = .ok (.iload_n 2, 1) by decide +kernel) rfl
theorem pX2_passSlot_38 (h : xkd S a = 10 ∨ xkd S a = 11) (hi : b < xln S a) (hn : xln S a < 2147483648) : xX E mX2_passSlot 38 [l0, l1, l2] (.int (nI b) :: .ref a :: st) S V Q ↔ xX E mX2_passSlot 39 [l0, l1, l2] (va_rf (xrf S a b) :: st) S V Q := xi_aald (show decode cX2_passSlot 38 = .ok (.aaload, 1) by decide +kernel) h hi hn
theorem pX2_passSlot_39 (h : xkd S a = 1) : xX E mX2_passSlot 39 [l0, l1, l2] (.ref a :: st) S V Q ↔ xX E mX2_passSlot 42 [l0, l1, l2] (.int (V a 10) :: st) S V Q := xi_getI (show decode cX2_passSlot 39 = .ok (.getfield 51, 3) by decide +kernel) xft_2_51 rfl h
theorem pX2_passSlot_42 : xX E mX2_passSlot 42 [l0, l1, l2] st S V Q ↔ xX E mX2_passSlot 43 [l0, l1, l2] (.int (nI 1) :: st) S V Q := xi (show decode cX2_passSlot 42 = .ok (.iconst 1, 1) by decide +kernel) rfl
theorem pX2_passSlot_43 : xX E mX2_passSlot 43 [l0, l1, l2] (.int y :: .int x :: st) S V Q ↔ xX E mX2_passSlot 44 [l0, l1, l2] (.int (x - y) :: st) S V Q := xi (show decode cX2_passSlot 43 = .ok (.isub, 1) by decide +kernel) rfl
theorem pX2_passSlot_44 (hc : xcat st ≤ 8) : xX E mX2_passSlot 44 [l0, l1, l2] (.int y :: .int x :: st) S V Q ↔ xX E mX2_passSlot 47 [l0, l1, l2] (.int (if x < y then y else x) :: st) S V Q := xi_max (show decode cX2_passSlot 44 = .ok (.invokestatic 80, 3) by decide +kernel) xcn_2_80 xmt_2_80 (by decide) hc
theorem pX2_passSlot_47 (h : xkd S a = 1) : xX E mX2_passSlot 47 [l0, l1, l2] (.int x :: .ref a :: st) S V Q ↔ xX E mX2_passSlot 50 [l0, l1, l2] st S (xup V a 10 x) Q := xi_putI (show decode cX2_passSlot 47 = .ok (.putfield 51, 3) by decide +kernel) xft_2_51 (by decide) rfl rfl h
theorem pX2_passSlot_50 (h : xnl l1 = true) : xX E mX2_passSlot 50 [l0, l1, some (.int (nI a))] st S V Q ↔ xX E mX2_passSlot 53 [l0, l1, some (.int (nI (a + 1)))] st S V Q := xi_iinc (j := 1) (show decode cX2_passSlot 50 = .ok (.iinc 2 1, 3) by decide +kernel) rfl h rfl (nI_add a 1) (Nat.le_of_ble_eq_true rfl) rfl
theorem pX2_passSlot_53 : xX E mX2_passSlot 53 [l0, l1, l2] st S V Q ↔ xX E mX2_passSlot 20 [l0, l1, l2] st S V Q := xi_goto (show decode cX2_passSlot 53 = .ok (.goto (-33), 3) by decide +kernel) (by decide)
theorem pX2_passSlot_56 : xX E mX2_passSlot 56 [some (.ref a), l1, l2] st S V Q ↔ xX E mX2_passSlot 57 [some (.ref a), l1, l2] (.ref a :: st) S V Q := xi (show decode cX2_passSlot 56 = .ok (.aload_n 0, 1) by decide +kernel) rfl
theorem pX2_passSlot_57 : xX E mX2_passSlot 57 [l0, some (.int x), l2] st S V Q ↔ xX E mX2_passSlot 58 [l0, some (.int x), l2] (.int x :: st) S V Q := xi (show decode cX2_passSlot 57 = .ok (.iload_n 1, 1) by decide +kernel) rfl
theorem pX2_passSlot_58 {x0 : Int32} (h : xkd S a = 3) (hc : xcat st ≤ 8) : xX E mX2_passSlot 58 [l0, l1, l2] (.int x0 :: .ref a :: st) S V Q ↔ xC E mX2_runnerInSlotOf [.ref a, .int x0] S V (fun v S V => xX E mX2_passSlot 61 [l0, l1, l2] (v.toList ++ st) S V Q) := xi_callV (as := [.int x0]) (show decode cX2_passSlot 58 = .ok (.invokevirtual 102, 3) by decide +kernel) xct_2_102 rfl rfl (by decide) (Nat.le_of_ble_eq_true rfl) rfl h hc
theorem pX2_passSlot_61 (h : xnl l1 = true) : xX E mX2_passSlot 61 [l0, l1, l2] (.int x :: st) S V Q ↔ xX E mX2_passSlot 62 [l0, l1, some (.int x)] st S V Q := xi_st1 (j := 1) (v := .int x) (show decode cX2_passSlot 61 = .ok (.istore_n 2, 1) by decide +kernel) rfl h rfl rfl
theorem pX2_passSlot_62 : xX E mX2_passSlot 62 [some (.ref a), l1, l2] st S V Q ↔ xX E mX2_passSlot 63 [some (.ref a), l1, l2] (.ref a :: st) S V Q := xi (show decode cX2_passSlot 62 = .ok (.aload_n 0, 1) by decide +kernel) rfl
theorem pX2_passSlot_63 : xX E mX2_passSlot 63 [l0, some (.int x), l2] st S V Q ↔ xX E mX2_passSlot 64 [l0, some (.int x), l2] (.int x :: st) S V Q := xi (show decode cX2_passSlot 63 = .ok (.iload_n 1, 1) by decide +kernel) rfl
theorem pX2_passSlot_64 : xX E mX2_passSlot 64 [l0, l1, some (.int x)] st S V Q ↔ xX E mX2_passSlot 65 [l0, l1, some (.int x)] (.int x :: st) S V Q := xi (show decode cX2_passSlot 64 = .ok (.iload_n 2, 1) by decide +kernel) rfl
theorem pX2_passSlot_65 {x0 : Int32} {x1 : Int32} (h : xkd S a = 3) (hc : xcat st ≤ 8) : xX E mX2_passSlot 65 [l0, l1, l2] (.int x1 :: .int x0 :: .ref a :: st) S V Q ↔ xC E mX2_account [.ref a, .int x0, .int x1] S V (fun v S V => xX E mX2_passSlot 68 [l0, l1, l2] (v.toList ++ st) S V Q) := xi_callV (as := [.int x0, .int x1]) (show decode cX2_passSlot 65 = .ok (.invokevirtual 105, 3) by decide +kernel) xct_2_105 rfl rfl (by decide) (Nat.le_of_ble_eq_true rfl) rfl h hc
theorem pX2_passSlot_68 : xX E mX2_passSlot 68 [l0, l1, some (.int x)] st S V Q ↔ xX E mX2_passSlot 69 [l0, l1, some (.int x)] (.int x :: st) S V Q := xi (show decode cX2_passSlot 68 = .ok (.iload_n 2, 1) by decide +kernel) rfl
theorem pX2_passSlot_69 : xX E mX2_passSlot 69 [l0, l1, l2] st S V Q ↔ xX E mX2_passSlot 71 [l0, l1, l2] (.int (-6) :: st) S V Q := xi (show decode cX2_passSlot 69 = .ok (.bipush (-6), 2) by decide +kernel) rfl
theorem pX2_passSlot_71 : xX E mX2_passSlot 71 [l0, l1, l2] (.int y :: .int x :: st) S V Q ↔ if x = y then xX E mX2_passSlot 79 [l0, l1, l2] st S V Q else xX E mX2_passSlot 74 [l0, l1, l2] st S V Q := xi_icmp (show decode cX2_passSlot 71 = .ok (.if_icmp .eq 8, 3) by decide +kernel) (by decide) xcb_eq
theorem pX2_passSlot_74 : xX E mX2_passSlot 74 [some (.ref a), l1, l2] st S V Q ↔ xX E mX2_passSlot 75 [some (.ref a), l1, l2] (.ref a :: st) S V Q := xi (show decode cX2_passSlot 74 = .ok (.aload_n 0, 1) by decide +kernel) rfl
theorem pX2_passSlot_75 : xX E mX2_passSlot 75 [l0, l1, some (.int x)] st S V Q ↔ xX E mX2_passSlot 76 [l0, l1, some (.int x)] (.int x :: st) S V Q := xi (show decode cX2_passSlot 75 = .ok (.iload_n 2, 1) by decide +kernel) rfl
theorem pX2_passSlot_76 {x0 : Int32} (h : xkd S a = 3) (hc : xcat st ≤ 8) : xX E mX2_passSlot 76 [l0, l1, l2] (.int x0 :: .ref a :: st) S V Q ↔ xC E mX2_runNextOf [.ref a, .int x0] S V (fun v S V => xX E mX2_passSlot 79 [l0, l1, l2] (v.toList ++ st) S V Q) := xi_callV (as := [.int x0]) (show decode cX2_passSlot 76 = .ok (.invokevirtual 109, 3) by decide +kernel) xct_2_109 rfl rfl (by decide) (Nat.le_of_ble_eq_true rfl) rfl h hc
theorem pX2_passSlot_79 : xX E mX2_passSlot 79 [l0, l1, some (.int x)] st S V Q ↔ xX E mX2_passSlot 80 [l0, l1, some (.int x)] (.int x :: st) S V Q := xi (show decode cX2_passSlot 79 = .ok (.iload_n 2, 1) by decide +kernel) rfl
theorem pX2_passSlot_80 : xX E mX2_passSlot 80 [l0, l1, l2] [.int x] S V Q ↔ Q (some (.int x)) S V := xi_retI (show decode cX2_passSlot 80 = .ok (.ireturn, 1) by decide +kernel) rfl
-- TurnSlots$Machine.passSlots(I)I
theorem pX2_passSlots_0 : xX E mX2_passSlots 0 [l0, l1, l2, l3] st S V Q ↔ xX E mX2_passSlots 2 [l0, l1, l2, l3] (.int (-6) :: st) S V Q := xi (show decode cX2_passSlots 0 = .ok (.bipush (-6), 2) by decide +kernel) rfl
theorem pX2_passSlots_2 (h : xnl l1 = true) : xX E mX2_passSlots 2 [l0, l1, l2, l3] (.int x :: st) S V Q ↔ xX E mX2_passSlots 3 [l0, l1, some (.int x), l3] st S V Q := xi_st1 (j := 1) (v := .int x) (show decode cX2_passSlots 2 = .ok (.istore_n 2, 1) by decide +kernel) rfl h rfl rfl
theorem pX2_passSlots_3 : xX E mX2_passSlots 3 [l0, l1, l2, l3] st S V Q ↔ xX E mX2_passSlots 4 [l0, l1, l2, l3] (.int (nI 0) :: st) S V Q := xi (show decode cX2_passSlots 3 = .ok (.iconst 0, 1) by decide +kernel) rfl
theorem pX2_passSlots_4 (h : xnl l2 = true) : xX E mX2_passSlots 4 [l0, l1, l2, l3] (.int x :: st) S V Q ↔ xX E mX2_passSlots 5 [l0, l1, l2, some (.int x)] st S V Q := xi_st1 (j := 2) (v := .int x) (show decode cX2_passSlots 4 = .ok (.istore_n 3, 1) by decide +kernel) rfl h rfl rfl
theorem pX2_passSlots_5 : xX E mX2_passSlots 5 [l0, l1, l2, some (.int x)] st S V Q ↔ xX E mX2_passSlots 6 [l0, l1, l2, some (.int x)] (.int x :: st) S V Q := xi (show decode cX2_passSlots 5 = .ok (.iload_n 3, 1) by decide +kernel) rfl
theorem pX2_passSlots_6 : xX E mX2_passSlots 6 [l0, some (.int x), l2, l3] st S V Q ↔ xX E mX2_passSlots 7 [l0, some (.int x), l2, l3] (.int x :: st) S V Q := xi (show decode cX2_passSlots 6 = .ok (.iload_n 1, 1) by decide +kernel) rfl
theorem pX2_passSlots_7 : xX E mX2_passSlots 7 [l0, l1, l2, l3] (.int y :: .int x :: st) S V Q ↔ if y ≤ x then xX E mX2_passSlots 21 [l0, l1, l2, l3] st S V Q else xX E mX2_passSlots 10 [l0, l1, l2, l3] st S V Q := xi_icmp (show decode cX2_passSlots 7 = .ok (.if_icmp .ge 14, 3) by decide +kernel) (by decide) xcb_ge
theorem pX2_passSlots_10 : xX E mX2_passSlots 10 [some (.ref a), l1, l2, l3] st S V Q ↔ xX E mX2_passSlots 11 [some (.ref a), l1, l2, l3] (.ref a :: st) S V Q := xi (show decode cX2_passSlots 10 = .ok (.aload_n 0, 1) by decide +kernel) rfl
theorem pX2_passSlots_11  (h : xkd S a = 3) (hc : xcat st ≤ 8) : xX E mX2_passSlots 11 [l0, l1, l2, l3] (.ref a :: st) S V Q ↔ xC E mX2_passSlot [.ref a] S V (fun v S V => xX E mX2_passSlots 14 [l0, l1, l2, l3] (v.toList ++ st) S V Q) := xi_callV (as := []) (show decode cX2_passSlots 11 = .ok (.invokevirtual 90, 3) by decide +kernel) xct_2_90 rfl rfl (by decide) (Nat.le_of_ble_eq_true rfl) rfl h hc
theorem pX2_passSlots_14 (h : xnl l1 = true) : xX E mX2_passSlots 14 [l0, l1, l2, l3] (.int x :: st) S V Q ↔ xX E mX2_passSlots 15 [l0, l1, some (.int x), l3] st S V Q := xi_st1 (j := 1) (v := .int x) (show decode cX2_passSlots 14 = .ok (.istore_n 2, 1) by decide +kernel) rfl h rfl rfl
theorem pX2_passSlots_15 (h : xnl l2 = true) : xX E mX2_passSlots 15 [l0, l1, l2, some (.int (nI a))] st S V Q ↔ xX E mX2_passSlots 18 [l0, l1, l2, some (.int (nI (a + 1)))] st S V Q := xi_iinc (j := 2) (show decode cX2_passSlots 15 = .ok (.iinc 3 1, 3) by decide +kernel) rfl h rfl (nI_add a 1) (Nat.le_of_ble_eq_true rfl) rfl
theorem pX2_passSlots_18 : xX E mX2_passSlots 18 [l0, l1, l2, l3] st S V Q ↔ xX E mX2_passSlots 5 [l0, l1, l2, l3] st S V Q := xi_goto (show decode cX2_passSlots 18 = .ok (.goto (-13), 3) by decide +kernel) (by decide)
theorem pX2_passSlots_21 : xX E mX2_passSlots 21 [l0, l1, some (.int x), l3] st S V Q ↔ xX E mX2_passSlots 22 [l0, l1, some (.int x), l3] (.int x :: st) S V Q := xi (show decode cX2_passSlots 21 = .ok (.iload_n 2, 1) by decide +kernel) rfl
theorem pX2_passSlots_22 : xX E mX2_passSlots 22 [l0, l1, l2, l3] [.int x] S V Q ↔ Q (some (.int x)) S V := xi_retI (show decode cX2_passSlots 22 = .ok (.ireturn, 1) by decide +kernel) rfl
-- TurnSlots$Machine.passUntilDone(I)I
theorem pX2_passUntilDone_0 : xX E mX2_passUntilDone 0 [l0, l1, l2] st S V Q ↔ xX E mX2_passUntilDone 1 [l0, l1, l2] (.int (nI 0) :: st) S V Q := xi (show decode cX2_passUntilDone 0 = .ok (.iconst 0, 1) by decide +kernel) rfl
theorem pX2_passUntilDone_1 (h : xnl l1 = true) : xX E mX2_passUntilDone 1 [l0, l1, l2] (.int x :: st) S V Q ↔ xX E mX2_passUntilDone 2 [l0, l1, some (.int x)] st S V Q := xi_st1 (j := 1) (v := .int x) (show decode cX2_passUntilDone 1 = .ok (.istore_n 2, 1) by decide +kernel) rfl h rfl rfl
theorem pX2_passUntilDone_2 : xX E mX2_passUntilDone 2 [l0, l1, some (.int x)] st S V Q ↔ xX E mX2_passUntilDone 3 [l0, l1, some (.int x)] (.int x :: st) S V Q := xi (show decode cX2_passUntilDone 2 = .ok (.iload_n 2, 1) by decide +kernel) rfl
theorem pX2_passUntilDone_3 : xX E mX2_passUntilDone 3 [l0, l1, l2] st S V Q ↔ xX E mX2_passUntilDone 6 [l0, l1, l2] (.int (nI 1000) :: st) S V Q := xi (show decode cX2_passUntilDone 3 = .ok (.sipush 1000, 3) by decide +kernel) rfl
theorem pX2_passUntilDone_6 : xX E mX2_passUntilDone 6 [l0, l1, l2] (.int y :: .int x :: st) S V Q ↔ if y ≤ x then xX E mX2_passUntilDone 35 [l0, l1, l2] st S V Q else xX E mX2_passUntilDone 9 [l0, l1, l2] st S V Q := xi_icmp (show decode cX2_passUntilDone 6 = .ok (.if_icmp .ge 29, 3) by decide +kernel) (by decide) xcb_ge
theorem pX2_passUntilDone_9 : xX E mX2_passUntilDone 9 [some (.ref a), l1, l2] st S V Q ↔ xX E mX2_passUntilDone 10 [some (.ref a), l1, l2] (.ref a :: st) S V Q := xi (show decode cX2_passUntilDone 9 = .ok (.aload_n 0, 1) by decide +kernel) rfl
theorem pX2_passUntilDone_10 : xX E mX2_passUntilDone 10 [l0, some (.int x), l2] st S V Q ↔ xX E mX2_passUntilDone 11 [l0, some (.int x), l2] (.int x :: st) S V Q := xi (show decode cX2_passUntilDone 10 = .ok (.iload_n 1, 1) by decide +kernel) rfl
theorem pX2_passUntilDone_11 {x0 : Int32} (h : xkd S a = 3) (hc : xcat st ≤ 8) : xX E mX2_passUntilDone 11 [l0, l1, l2] (.int x0 :: .ref a :: st) S V Q ↔ xC E mX2_areDone [.ref a, .int x0] S V (fun v S V => xX E mX2_passUntilDone 14 [l0, l1, l2] (v.toList ++ st) S V Q) := xi_callV (as := [.int x0]) (show decode cX2_passUntilDone 11 = .ok (.invokevirtual 94, 3) by decide +kernel) xct_2_94 rfl rfl (by decide) (Nat.le_of_ble_eq_true rfl) rfl h hc
theorem pX2_passUntilDone_14 : xX E mX2_passUntilDone 14 [l0, l1, l2] (.int x :: st) S V Q ↔ if ¬ x = nI 0 then xX E mX2_passUntilDone 35 [l0, l1, l2] st S V Q else xX E mX2_passUntilDone 17 [l0, l1, l2] st S V Q := xi_if (show decode cX2_passUntilDone 14 = .ok (.ifCond .ne 21, 3) by decide +kernel) (by decide) xcb_ne
theorem pX2_passUntilDone_17 : xX E mX2_passUntilDone 17 [some (.ref a), l1, l2] st S V Q ↔ xX E mX2_passUntilDone 18 [some (.ref a), l1, l2] (.ref a :: st) S V Q := xi (show decode cX2_passUntilDone 17 = .ok (.aload_n 0, 1) by decide +kernel) rfl
theorem pX2_passUntilDone_18  (h : xkd S a = 3) (hc : xcat st ≤ 8) : xX E mX2_passUntilDone 18 [l0, l1, l2] (.ref a :: st) S V Q ↔ xC E mX2_isStuck [.ref a] S V (fun v S V => xX E mX2_passUntilDone 21 [l0, l1, l2] (v.toList ++ st) S V Q) := xi_callV (as := []) (show decode cX2_passUntilDone 18 = .ok (.invokevirtual 98, 3) by decide +kernel) xct_2_98 rfl rfl (by decide) (Nat.le_of_ble_eq_true rfl) rfl h hc
theorem pX2_passUntilDone_21 : xX E mX2_passUntilDone 21 [l0, l1, l2] (.int x :: st) S V Q ↔ if ¬ x = nI 0 then xX E mX2_passUntilDone 35 [l0, l1, l2] st S V Q else xX E mX2_passUntilDone 24 [l0, l1, l2] st S V Q := xi_if (show decode cX2_passUntilDone 21 = .ok (.ifCond .ne 14, 3) by decide +kernel) (by decide) xcb_ne
theorem pX2_passUntilDone_24 : xX E mX2_passUntilDone 24 [some (.ref a), l1, l2] st S V Q ↔ xX E mX2_passUntilDone 25 [some (.ref a), l1, l2] (.ref a :: st) S V Q := xi (show decode cX2_passUntilDone 24 = .ok (.aload_n 0, 1) by decide +kernel) rfl
theorem pX2_passUntilDone_25  (h : xkd S a = 3) (hc : xcat st ≤ 8) : xX E mX2_passUntilDone 25 [l0, l1, l2] (.ref a :: st) S V Q ↔ xC E mX2_passSlot [.ref a] S V (fun v S V => xX E mX2_passUntilDone 28 [l0, l1, l2] (v.toList ++ st) S V Q) := xi_callV (as := []) (show decode cX2_passUntilDone 25 = .ok (.invokevirtual 90, 3) by decide +kernel) xct_2_90 rfl rfl (by decide) (Nat.le_of_ble_eq_true rfl) rfl h hc
theorem pX2_passUntilDone_28 : xX E mX2_passUntilDone 28 [l0, l1, l2] (.int x :: st) S V Q ↔ xX E mX2_passUntilDone 29 [l0, l1, l2] st S V Q := xi (show decode cX2_passUntilDone 28 = .ok (.pop, 1) by decide +kernel) rfl
theorem pX2_passUntilDone_29 (h : xnl l1 = true) : xX E mX2_passUntilDone 29 [l0, l1, some (.int (nI a))] st S V Q ↔ xX E mX2_passUntilDone 32 [l0, l1, some (.int (nI (a + 1)))] st S V Q := xi_iinc (j := 1) (show decode cX2_passUntilDone 29 = .ok (.iinc 2 1, 3) by decide +kernel) rfl h rfl (nI_add a 1) (Nat.le_of_ble_eq_true rfl) rfl
theorem pX2_passUntilDone_32 : xX E mX2_passUntilDone 32 [l0, l1, l2] st S V Q ↔ xX E mX2_passUntilDone 2 [l0, l1, l2] st S V Q := xi_goto (show decode cX2_passUntilDone 32 = .ok (.goto (-30), 3) by decide +kernel) (by decide)
theorem pX2_passUntilDone_35 : xX E mX2_passUntilDone 35 [l0, l1, some (.int x)] st S V Q ↔ xX E mX2_passUntilDone 36 [l0, l1, some (.int x)] (.int x :: st) S V Q := xi (show decode cX2_passUntilDone 35 = .ok (.iload_n 2, 1) by decide +kernel) rfl
theorem pX2_passUntilDone_36 : xX E mX2_passUntilDone 36 [l0, l1, l2] [.int x] S V Q ↔ Q (some (.int x)) S V := xi_retI (show decode cX2_passUntilDone 36 = .ok (.ireturn, 1) by decide +kernel) rfl
end PR
end
section
section PR
variable {E : Nat × Nat × Nat} {S : xSh} {V : xV} {Q : Option Value → xSh → xV → Prop} {st : List Value} {l0 l1 l2 l3 l4 l5 l6 l7 l8 l9 l10 l11 l12 l13 l14 : Option Value} {a b c d e f g : Nat} {x y z : Int32} {u w : Int64} {va vb : Value}
-- TurnSlots.has(II)Z
theorem pX4_has_0 : xX E mX4_has 0 [some (.int x), l1] st S V Q ↔ xX E mX4_has 1 [some (.int x), l1] (.int x :: st) S V Q := xi (show decode cX4_has 0 = .ok (.iload_n 0, 1) by decide +kernel) rfl
theorem pX4_has_1 : xX E mX4_has 1 [l0, some (.int x)] st S V Q ↔ xX E mX4_has 2 [l0, some (.int x)] (.int x :: st) S V Q := xi (show decode cX4_has 1 = .ok (.iload_n 1, 1) by decide +kernel) rfl
theorem pX4_has_2 : xX E mX4_has 2 [l0, l1] (.int y :: .int x :: st) S V Q ↔ xX E mX4_has 3 [l0, l1] (.int (x >>> (y &&& 31)) :: st) S V Q := xi (show decode cX4_has 2 = .ok (.ishr, 1) by decide +kernel) rfl
theorem pX4_has_3 : xX E mX4_has 3 [l0, l1] st S V Q ↔ xX E mX4_has 4 [l0, l1] (.int (nI 1) :: st) S V Q := xi (show decode cX4_has 3 = .ok (.iconst 1, 1) by decide +kernel) rfl
theorem pX4_has_4 : xX E mX4_has 4 [l0, l1] (.int y :: .int x :: st) S V Q ↔ xX E mX4_has 5 [l0, l1] (.int (x &&& y) :: st) S V Q := xi (show decode cX4_has 4 = .ok (.iand, 1) by decide +kernel) rfl
theorem pX4_has_5 : xX E mX4_has 5 [l0, l1] (.int x :: st) S V Q ↔ if x = nI 0 then xX E mX4_has 12 [l0, l1] st S V Q else xX E mX4_has 8 [l0, l1] st S V Q := xi_if (show decode cX4_has 5 = .ok (.ifCond .eq 7, 3) by decide +kernel) (by decide) xcb_eq
theorem pX4_has_8 : xX E mX4_has 8 [l0, l1] st S V Q ↔ xX E mX4_has 9 [l0, l1] (.int (nI 1) :: st) S V Q := xi (show decode cX4_has 8 = .ok (.iconst 1, 1) by decide +kernel) rfl
theorem pX4_has_9 : xX E mX4_has 9 [l0, l1] st S V Q ↔ xX E mX4_has 13 [l0, l1] st S V Q := xi_goto (show decode cX4_has 9 = .ok (.goto 4, 3) by decide +kernel) (by decide)
theorem pX4_has_12 : xX E mX4_has 12 [l0, l1] st S V Q ↔ xX E mX4_has 13 [l0, l1] (.int (nI 0) :: st) S V Q := xi (show decode cX4_has 12 = .ok (.iconst 0, 1) by decide +kernel) rfl
theorem pX4_has_13 (h : b < 2) : xX E mX4_has 13 [l0, l1] [.int (nI b)] S V Q ↔ Q (some (.int (nI b))) S V := xi_retZ (show decode cX4_has 13 = .ok (.ireturn, 1) by decide +kernel) rfl h
-- TurnSlots.isCommand(II)Z
theorem pX4_isCommand_0 : xX E mX4_isCommand 0 [some (.int x), l1] st S V Q ↔ xX E mX4_isCommand 1 [some (.int x), l1] (.int x :: st) S V Q := xi (show decode cX4_isCommand 0 = .ok (.iload_n 0, 1) by decide +kernel) rfl
theorem pX4_isCommand_1 : xX E mX4_isCommand 1 [l0, l1] (.int x :: st) S V Q ↔ if x < nI 0 then xX E mX4_isCommand 32 [l0, l1] st S V Q else xX E mX4_isCommand 4 [l0, l1] st S V Q := xi_if (show decode cX4_isCommand 1 = .ok (.ifCond .lt 31, 3) by decide +kernel) (by decide) xcb_lt
theorem pX4_isCommand_4 : xX E mX4_isCommand 4 [some (.int x), l1] st S V Q ↔ xX E mX4_isCommand 5 [some (.int x), l1] (.int x :: st) S V Q := xi (show decode cX4_isCommand 4 = .ok (.iload_n 0, 1) by decide +kernel) rfl
theorem pX4_isCommand_5 : xX E mX4_isCommand 5 [l0, l1] st S V Q ↔ xX E mX4_isCommand 7 [l0, l1] (.int (nI 6) :: st) S V Q := xi (show decode cX4_isCommand 5 = .ok (.bipush 6, 2) by decide +kernel) rfl
theorem pX4_isCommand_7 : xX E mX4_isCommand 7 [l0, l1] (.int y :: .int x :: st) S V Q ↔ if y < x then xX E mX4_isCommand 32 [l0, l1] st S V Q else xX E mX4_isCommand 10 [l0, l1] st S V Q := xi_icmp (show decode cX4_isCommand 7 = .ok (.if_icmp .gt 25, 3) by decide +kernel) (by decide) xcb_gt
theorem pX4_isCommand_10 : xX E mX4_isCommand 10 [l0, some (.int x)] st S V Q ↔ xX E mX4_isCommand 11 [l0, some (.int x)] (.int x :: st) S V Q := xi (show decode cX4_isCommand 10 = .ok (.iload_n 1, 1) by decide +kernel) rfl
theorem pX4_isCommand_11 : xX E mX4_isCommand 11 [l0, l1] st S V Q ↔ xX E mX4_isCommand 14 [l0, l1] (.ref E.1 :: st) S V Q := xi_stat (show decode cX4_isCommand 11 = .ok (.getstatic 207, 3) by decide +kernel) xst_4_207 (Or.inl ⟨rfl, rfl⟩)
theorem pX4_isCommand_14 : xX E mX4_isCommand 14 [some (.int x), l1] st S V Q ↔ xX E mX4_isCommand 15 [some (.int x), l1] (.int x :: st) S V Q := xi (show decode cX4_isCommand 14 = .ok (.iload_n 0, 1) by decide +kernel) rfl
theorem pX4_isCommand_15 (h : xkd S a = 7 ∨ xkd S a = 14) (hi : b < xln S a) (hn : xln S a < 2147483648) : xX E mX4_isCommand 15 [l0, l1] (.int (nI b) :: .ref a :: st) S V Q ↔ xX E mX4_isCommand 16 [l0, l1] (.int (V a b) :: st) S V Q := xi_iald (show decode cX4_isCommand 15 = .ok (.iaload, 1) by decide +kernel) h hi hn
theorem pX4_isCommand_16 : xX E mX4_isCommand 16 [l0, l1] (.int y :: .int x :: st) S V Q ↔ if x < y then xX E mX4_isCommand 32 [l0, l1] st S V Q else xX E mX4_isCommand 19 [l0, l1] st S V Q := xi_icmp (show decode cX4_isCommand 16 = .ok (.if_icmp .lt 16, 3) by decide +kernel) (by decide) xcb_lt
theorem pX4_isCommand_19 : xX E mX4_isCommand 19 [l0, some (.int x)] st S V Q ↔ xX E mX4_isCommand 20 [l0, some (.int x)] (.int x :: st) S V Q := xi (show decode cX4_isCommand 19 = .ok (.iload_n 1, 1) by decide +kernel) rfl
theorem pX4_isCommand_20 : xX E mX4_isCommand 20 [l0, l1] st S V Q ↔ xX E mX4_isCommand 23 [l0, l1] (.ref E.2.1 :: st) S V Q := xi_stat (show decode cX4_isCommand 20 = .ok (.getstatic 210, 3) by decide +kernel) xst_4_210 (Or.inr ⟨rfl, rfl⟩)
theorem pX4_isCommand_23 : xX E mX4_isCommand 23 [some (.int x), l1] st S V Q ↔ xX E mX4_isCommand 24 [some (.int x), l1] (.int x :: st) S V Q := xi (show decode cX4_isCommand 23 = .ok (.iload_n 0, 1) by decide +kernel) rfl
theorem pX4_isCommand_24 (h : xkd S a = 7 ∨ xkd S a = 14) (hi : b < xln S a) (hn : xln S a < 2147483648) : xX E mX4_isCommand 24 [l0, l1] (.int (nI b) :: .ref a :: st) S V Q ↔ xX E mX4_isCommand 25 [l0, l1] (.int (V a b) :: st) S V Q := xi_iald (show decode cX4_isCommand 24 = .ok (.iaload, 1) by decide +kernel) h hi hn
theorem pX4_isCommand_25 : xX E mX4_isCommand 25 [l0, l1] (.int y :: .int x :: st) S V Q ↔ if y < x then xX E mX4_isCommand 32 [l0, l1] st S V Q else xX E mX4_isCommand 28 [l0, l1] st S V Q := xi_icmp (show decode cX4_isCommand 25 = .ok (.if_icmp .gt 7, 3) by decide +kernel) (by decide) xcb_gt
theorem pX4_isCommand_28 : xX E mX4_isCommand 28 [l0, l1] st S V Q ↔ xX E mX4_isCommand 29 [l0, l1] (.int (nI 1) :: st) S V Q := xi (show decode cX4_isCommand 28 = .ok (.iconst 1, 1) by decide +kernel) rfl
theorem pX4_isCommand_29 : xX E mX4_isCommand 29 [l0, l1] st S V Q ↔ xX E mX4_isCommand 33 [l0, l1] st S V Q := xi_goto (show decode cX4_isCommand 29 = .ok (.goto 4, 3) by decide +kernel) (by decide)
theorem pX4_isCommand_32 : xX E mX4_isCommand 32 [l0, l1] st S V Q ↔ xX E mX4_isCommand 33 [l0, l1] (.int (nI 0) :: st) S V Q := xi (show decode cX4_isCommand 32 = .ok (.iconst 0, 1) by decide +kernel) rfl
theorem pX4_isCommand_33 (h : b < 2) : xX E mX4_isCommand 33 [l0, l1] [.int (nI b)] S V Q ↔ Q (some (.int (nI b))) S V := xi_retZ (show decode cX4_isCommand 33 = .ok (.ireturn, 1) by decide +kernel) rfl h
-- TurnSlots.isContext(I)Z
theorem pX4_isContext_0 : xX E mX4_isContext 0 [some (.int x)] st S V Q ↔ xX E mX4_isContext 1 [some (.int x)] (.int x :: st) S V Q := xi (show decode cX4_isContext 0 = .ok (.iload_n 0, 1) by decide +kernel) rfl
theorem pX4_isContext_1 : xX E mX4_isContext 1 [l0] (.int x :: st) S V Q ↔ if x < nI 0 then xX E mX4_isContext 14 [l0] st S V Q else xX E mX4_isContext 4 [l0] st S V Q := xi_if (show decode cX4_isContext 1 = .ok (.ifCond .lt 13, 3) by decide +kernel) (by decide) xcb_lt
theorem pX4_isContext_4 : xX E mX4_isContext 4 [some (.int x)] st S V Q ↔ xX E mX4_isContext 5 [some (.int x)] (.int x :: st) S V Q := xi (show decode cX4_isContext 4 = .ok (.iload_n 0, 1) by decide +kernel) rfl
theorem pX4_isContext_5 : xX E mX4_isContext 5 [l0] st S V Q ↔ xX E mX4_isContext 7 [l0] (.int (nI 8) :: st) S V Q := xi (show decode cX4_isContext 5 = .ok (.bipush 8, 2) by decide +kernel) rfl
theorem pX4_isContext_7 : xX E mX4_isContext 7 [l0] (.int y :: .int x :: st) S V Q ↔ if y ≤ x then xX E mX4_isContext 14 [l0] st S V Q else xX E mX4_isContext 10 [l0] st S V Q := xi_icmp (show decode cX4_isContext 7 = .ok (.if_icmp .ge 7, 3) by decide +kernel) (by decide) xcb_ge
theorem pX4_isContext_10 : xX E mX4_isContext 10 [l0] st S V Q ↔ xX E mX4_isContext 11 [l0] (.int (nI 1) :: st) S V Q := xi (show decode cX4_isContext 10 = .ok (.iconst 1, 1) by decide +kernel) rfl
theorem pX4_isContext_11 : xX E mX4_isContext 11 [l0] st S V Q ↔ xX E mX4_isContext 15 [l0] st S V Q := xi_goto (show decode cX4_isContext 11 = .ok (.goto 4, 3) by decide +kernel) (by decide)
theorem pX4_isContext_14 : xX E mX4_isContext 14 [l0] st S V Q ↔ xX E mX4_isContext 15 [l0] (.int (nI 0) :: st) S V Q := xi (show decode cX4_isContext 14 = .ok (.iconst 0, 1) by decide +kernel) rfl
theorem pX4_isContext_15 (h : b < 2) : xX E mX4_isContext 15 [l0] [.int (nI b)] S V Q ↔ Q (some (.int (nI b))) S V := xi_retZ (show decode cX4_isContext 15 = .ok (.ireturn, 1) by decide +kernel) rfl h
-- TurnSlots.isLock(I)Z
theorem pX4_isLock_0 : xX E mX4_isLock 0 [some (.int x)] st S V Q ↔ xX E mX4_isLock 1 [some (.int x)] (.int x :: st) S V Q := xi (show decode cX4_isLock 0 = .ok (.iload_n 0, 1) by decide +kernel) rfl
theorem pX4_isLock_1 : xX E mX4_isLock 1 [l0] (.int x :: st) S V Q ↔ if x < nI 0 then xX E mX4_isLock 13 [l0] st S V Q else xX E mX4_isLock 4 [l0] st S V Q := xi_if (show decode cX4_isLock 1 = .ok (.ifCond .lt 12, 3) by decide +kernel) (by decide) xcb_lt
theorem pX4_isLock_4 : xX E mX4_isLock 4 [some (.int x)] st S V Q ↔ xX E mX4_isLock 5 [some (.int x)] (.int x :: st) S V Q := xi (show decode cX4_isLock 4 = .ok (.iload_n 0, 1) by decide +kernel) rfl
theorem pX4_isLock_5 : xX E mX4_isLock 5 [l0] st S V Q ↔ xX E mX4_isLock 6 [l0] (.int (nI 4) :: st) S V Q := xi (show decode cX4_isLock 5 = .ok (.iconst 4, 1) by decide +kernel) rfl
theorem pX4_isLock_6 : xX E mX4_isLock 6 [l0] (.int y :: .int x :: st) S V Q ↔ if y ≤ x then xX E mX4_isLock 13 [l0] st S V Q else xX E mX4_isLock 9 [l0] st S V Q := xi_icmp (show decode cX4_isLock 6 = .ok (.if_icmp .ge 7, 3) by decide +kernel) (by decide) xcb_ge
theorem pX4_isLock_9 : xX E mX4_isLock 9 [l0] st S V Q ↔ xX E mX4_isLock 10 [l0] (.int (nI 1) :: st) S V Q := xi (show decode cX4_isLock 9 = .ok (.iconst 1, 1) by decide +kernel) rfl
theorem pX4_isLock_10 : xX E mX4_isLock 10 [l0] st S V Q ↔ xX E mX4_isLock 14 [l0] st S V Q := xi_goto (show decode cX4_isLock 10 = .ok (.goto 4, 3) by decide +kernel) (by decide)
theorem pX4_isLock_13 : xX E mX4_isLock 13 [l0] st S V Q ↔ xX E mX4_isLock 14 [l0] (.int (nI 0) :: st) S V Q := xi (show decode cX4_isLock 13 = .ok (.iconst 0, 1) by decide +kernel) rfl
theorem pX4_isLock_14 (h : b < 2) : xX E mX4_isLock 14 [l0] [.int (nI b)] S V Q ↔ Q (some (.int (nI b))) S V := xi_retZ (show decode cX4_isLock 14 = .ok (.ireturn, 1) by decide +kernel) rfl h
-- TurnSlots.isPriority(I)Z
theorem pX4_isPriority_0 : xX E mX4_isPriority 0 [some (.int x)] st S V Q ↔ xX E mX4_isPriority 1 [some (.int x)] (.int x :: st) S V Q := xi (show decode cX4_isPriority 0 = .ok (.iload_n 0, 1) by decide +kernel) rfl
theorem pX4_isPriority_1 : xX E mX4_isPriority 1 [l0] (.int x :: st) S V Q ↔ if x < nI 0 then xX E mX4_isPriority 14 [l0] st S V Q else xX E mX4_isPriority 4 [l0] st S V Q := xi_if (show decode cX4_isPriority 1 = .ok (.ifCond .lt 13, 3) by decide +kernel) (by decide) xcb_lt
theorem pX4_isPriority_4 : xX E mX4_isPriority 4 [some (.int x)] st S V Q ↔ xX E mX4_isPriority 5 [some (.int x)] (.int x :: st) S V Q := xi (show decode cX4_isPriority 4 = .ok (.iload_n 0, 1) by decide +kernel) rfl
theorem pX4_isPriority_5 : xX E mX4_isPriority 5 [l0] st S V Q ↔ xX E mX4_isPriority 7 [l0] (.int (nI 9) :: st) S V Q := xi (show decode cX4_isPriority 5 = .ok (.bipush 9, 2) by decide +kernel) rfl
theorem pX4_isPriority_7 : xX E mX4_isPriority 7 [l0] (.int y :: .int x :: st) S V Q ↔ if y < x then xX E mX4_isPriority 14 [l0] st S V Q else xX E mX4_isPriority 10 [l0] st S V Q := xi_icmp (show decode cX4_isPriority 7 = .ok (.if_icmp .gt 7, 3) by decide +kernel) (by decide) xcb_gt
theorem pX4_isPriority_10 : xX E mX4_isPriority 10 [l0] st S V Q ↔ xX E mX4_isPriority 11 [l0] (.int (nI 1) :: st) S V Q := xi (show decode cX4_isPriority 10 = .ok (.iconst 1, 1) by decide +kernel) rfl
theorem pX4_isPriority_11 : xX E mX4_isPriority 11 [l0] st S V Q ↔ xX E mX4_isPriority 15 [l0] st S V Q := xi_goto (show decode cX4_isPriority 11 = .ok (.goto 4, 3) by decide +kernel) (by decide)
theorem pX4_isPriority_14 : xX E mX4_isPriority 14 [l0] st S V Q ↔ xX E mX4_isPriority 15 [l0] (.int (nI 0) :: st) S V Q := xi (show decode cX4_isPriority 14 = .ok (.iconst 0, 1) by decide +kernel) rfl
theorem pX4_isPriority_15 (h : b < 2) : xX E mX4_isPriority 15 [l0] [.int (nI b)] S V Q ↔ Q (some (.int (nI b))) S V := xi_retZ (show decode cX4_isPriority 15 = .ok (.ireturn, 1) by decide +kernel) rfl h
-- TurnSlots.isSave(I)Z
theorem pX4_isSave_0 : xX E mX4_isSave 0 [some (.int x)] st S V Q ↔ xX E mX4_isSave 1 [some (.int x)] (.int x :: st) S V Q := xi (show decode cX4_isSave 0 = .ok (.iload_n 0, 1) by decide +kernel) rfl
theorem pX4_isSave_1 : xX E mX4_isSave 1 [l0] (.int x :: st) S V Q ↔ if x < nI 0 then xX E mX4_isSave 13 [l0] st S V Q else xX E mX4_isSave 4 [l0] st S V Q := xi_if (show decode cX4_isSave 1 = .ok (.ifCond .lt 12, 3) by decide +kernel) (by decide) xcb_lt
theorem pX4_isSave_4 : xX E mX4_isSave 4 [some (.int x)] st S V Q ↔ xX E mX4_isSave 5 [some (.int x)] (.int x :: st) S V Q := xi (show decode cX4_isSave 4 = .ok (.iload_n 0, 1) by decide +kernel) rfl
theorem pX4_isSave_5 : xX E mX4_isSave 5 [l0] st S V Q ↔ xX E mX4_isSave 6 [l0] (.int (nI 2) :: st) S V Q := xi (show decode cX4_isSave 5 = .ok (.iconst 2, 1) by decide +kernel) rfl
theorem pX4_isSave_6 : xX E mX4_isSave 6 [l0] (.int y :: .int x :: st) S V Q ↔ if y ≤ x then xX E mX4_isSave 13 [l0] st S V Q else xX E mX4_isSave 9 [l0] st S V Q := xi_icmp (show decode cX4_isSave 6 = .ok (.if_icmp .ge 7, 3) by decide +kernel) (by decide) xcb_ge
theorem pX4_isSave_9 : xX E mX4_isSave 9 [l0] st S V Q ↔ xX E mX4_isSave 10 [l0] (.int (nI 1) :: st) S V Q := xi (show decode cX4_isSave 9 = .ok (.iconst 1, 1) by decide +kernel) rfl
theorem pX4_isSave_10 : xX E mX4_isSave 10 [l0] st S V Q ↔ xX E mX4_isSave 14 [l0] st S V Q := xi_goto (show decode cX4_isSave 10 = .ok (.goto 4, 3) by decide +kernel) (by decide)
theorem pX4_isSave_13 : xX E mX4_isSave 13 [l0] st S V Q ↔ xX E mX4_isSave 14 [l0] (.int (nI 0) :: st) S V Q := xi (show decode cX4_isSave 13 = .ok (.iconst 0, 1) by decide +kernel) rfl
theorem pX4_isSave_14 (h : b < 2) : xX E mX4_isSave 14 [l0] [.int (nI b)] S V Q ↔ Q (some (.int (nI b))) S V := xi_retZ (show decode cX4_isSave 14 = .ok (.ireturn, 1) by decide +kernel) rfl h
-- TurnSlots.isStep(I)Z
theorem pX4_isStep_0 : xX E mX4_isStep 0 [some (.int x)] st S V Q ↔ xX E mX4_isStep 1 [some (.int x)] (.int x :: st) S V Q := xi (show decode cX4_isStep 0 = .ok (.iload_n 0, 1) by decide +kernel) rfl
theorem pX4_isStep_1 : xX E mX4_isStep 1 [l0] st S V Q ↔ xX E mX4_isStep 2 [l0] (.int (nI 1) :: st) S V Q := xi (show decode cX4_isStep 1 = .ok (.iconst 1, 1) by decide +kernel) rfl
theorem pX4_isStep_2 : xX E mX4_isStep 2 [l0] (.int y :: .int x :: st) S V Q ↔ if x < y then xX E mX4_isStep 16 [l0] st S V Q else xX E mX4_isStep 5 [l0] st S V Q := xi_icmp (show decode cX4_isStep 2 = .ok (.if_icmp .lt 14, 3) by decide +kernel) (by decide) xcb_lt
theorem pX4_isStep_5 : xX E mX4_isStep 5 [some (.int x)] st S V Q ↔ xX E mX4_isStep 6 [some (.int x)] (.int x :: st) S V Q := xi (show decode cX4_isStep 5 = .ok (.iload_n 0, 1) by decide +kernel) rfl
theorem pX4_isStep_6 : xX E mX4_isStep 6 [l0] st S V Q ↔ xX E mX4_isStep 9 [l0] (.int (nI 200) :: st) S V Q := xi (show decode cX4_isStep 6 = .ok (.sipush 200, 3) by decide +kernel) rfl
theorem pX4_isStep_9 : xX E mX4_isStep 9 [l0] (.int y :: .int x :: st) S V Q ↔ if y < x then xX E mX4_isStep 16 [l0] st S V Q else xX E mX4_isStep 12 [l0] st S V Q := xi_icmp (show decode cX4_isStep 9 = .ok (.if_icmp .gt 7, 3) by decide +kernel) (by decide) xcb_gt
theorem pX4_isStep_12 : xX E mX4_isStep 12 [l0] st S V Q ↔ xX E mX4_isStep 13 [l0] (.int (nI 1) :: st) S V Q := xi (show decode cX4_isStep 12 = .ok (.iconst 1, 1) by decide +kernel) rfl
theorem pX4_isStep_13 : xX E mX4_isStep 13 [l0] st S V Q ↔ xX E mX4_isStep 17 [l0] st S V Q := xi_goto (show decode cX4_isStep 13 = .ok (.goto 4, 3) by decide +kernel) (by decide)
theorem pX4_isStep_16 : xX E mX4_isStep 16 [l0] st S V Q ↔ xX E mX4_isStep 17 [l0] (.int (nI 0) :: st) S V Q := xi (show decode cX4_isStep 16 = .ok (.iconst 0, 1) by decide +kernel) rfl
theorem pX4_isStep_17 (h : b < 2) : xX E mX4_isStep 17 [l0] [.int (nI b)] S V Q ↔ Q (some (.int (nI b))) S V := xi_retZ (show decode cX4_isStep 17 = .ok (.ireturn, 1) by decide +kernel) rfl h
-- TurnSlots.command(III)I
theorem pX4_command_0 : xX E mX4_command 0 [l0, some (.int x), l2, l3, l4] st S V Q ↔ xX E mX4_command 1 [l0, some (.int x), l2, l3, l4] (.int x :: st) S V Q := xi (show decode cX4_command 0 = .ok (.iload_n 1, 1) by decide +kernel) rfl
theorem pX4_command_1 {x0 : Int32} (hc : xcat st ≤ 8) : xX E mX4_command 1 [l0, l1, l2, l3, l4] (.int x0 :: st) S V Q ↔ xC E mX4_isContext [.int x0] S V (fun v S V => xX E mX4_command 4 [l0, l1, l2, l3, l4] (v.toList ++ st) S V Q) := xi_callS (as := [.int x0]) (show decode cX4_command 1 = .ok (.invokestatic 41, 3) by decide +kernel) xct_4_41 (by decide) rfl rfl (by decide) (Nat.le_of_ble_eq_true rfl) hc
theorem pX4_command_4 : xX E mX4_command 4 [l0, l1, l2, l3, l4] (.int x :: st) S V Q ↔ if ¬ x = nI 0 then xX E mX4_command 9 [l0, l1, l2, l3, l4] st S V Q else xX E mX4_command 7 [l0, l1, l2, l3, l4] st S V Q := xi_if (show decode cX4_command 4 = .ok (.ifCond .ne 5, 3) by decide +kernel) (by decide) xcb_ne
theorem pX4_command_7 : xX E mX4_command 7 [l0, l1, l2, l3, l4] st S V Q ↔ xX E mX4_command 8 [l0, l1, l2, l3, l4] (.int (-1) :: st) S V Q := xi (show decode cX4_command 7 = .ok (.iconst (-1), 1) by decide +kernel) rfl
theorem pX4_command_8 : xX E mX4_command 8 [l0, l1, l2, l3, l4] [.int x] S V Q ↔ Q (some (.int x)) S V := xi_retI (show decode cX4_command 8 = .ok (.ireturn, 1) by decide +kernel) rfl
theorem pX4_command_9 : xX E mX4_command 9 [some (.ref a), l1, l2, l3, l4] st S V Q ↔ xX E mX4_command 10 [some (.ref a), l1, l2, l3, l4] (.ref a :: st) S V Q := xi (show decode cX4_command 9 = .ok (.aload_n 0, 1) by decide +kernel) rfl
theorem pX4_command_10 (h : xkd S a = 5) : xX E mX4_command 10 [l0, l1, l2, l3, l4] (.ref a :: st) S V Q ↔ xX E mX4_command 13 [l0, l1, l2, l3, l4] (va_rf (xrf S a 0) :: st) S V Q := xi_getR (show decode cX4_command 10 = .ok (.getfield 10, 3) by decide +kernel) xft_4_10 rfl h
theorem pX4_command_13 (h : xkd S a = 3) : xX E mX4_command 13 [l0, l1, l2, l3, l4] (.ref a :: st) S V Q ↔ xX E mX4_command 16 [l0, l1, l2, l3, l4] (va_rf (xrf S a 0) :: st) S V Q := xi_getR (show decode cX4_command 13 = .ok (.getfield 49, 3) by decide +kernel) xft_4_49 rfl h
theorem pX4_command_16 : xX E mX4_command 16 [l0, some (.int x), l2, l3, l4] st S V Q ↔ xX E mX4_command 17 [l0, some (.int x), l2, l3, l4] (.int x :: st) S V Q := xi (show decode cX4_command 16 = .ok (.iload_n 1, 1) by decide +kernel) rfl
theorem pX4_command_17 (h : xkd S a = 10 ∨ xkd S a = 11) (hi : b < xln S a) (hn : xln S a < 2147483648) : xX E mX4_command 17 [l0, l1, l2, l3, l4] (.int (nI b) :: .ref a :: st) S V Q ↔ xX E mX4_command 18 [l0, l1, l2, l3, l4] (va_rf (xrf S a b) :: st) S V Q := xi_aald (show decode cX4_command 17 = .ok (.aaload, 1) by decide +kernel) h hi hn
theorem pX4_command_18 (h : xnl l3 = true) : xX E mX4_command 18 [l0, l1, l2, l3, l4] (.ref a :: st) S V Q ↔ xX E mX4_command 20 [l0, l1, l2, l3, some (.ref a)] st S V Q := xi_st1 (j := 3) (v := .ref a) (show decode cX4_command 18 = .ok (.astore 4, 2) by decide +kernel) rfl h rfl rfl
theorem pX4_command_20 : xX E mX4_command 20 [l0, l1, some (.int x), l3, l4] st S V Q ↔ xX E mX4_command 21 [l0, l1, some (.int x), l3, l4] (.int x :: st) S V Q := xi (show decode cX4_command 20 = .ok (.iload_n 2, 1) by decide +kernel) rfl
theorem pX4_command_21 : xX E mX4_command 21 [l0, l1, l2, l3, l4] (.int x :: st) S V Q ↔ if x < nI 0 then xX E mX4_command 33 [l0, l1, l2, l3, l4] st S V Q else xX E mX4_command 24 [l0, l1, l2, l3, l4] st S V Q := xi_if (show decode cX4_command 21 = .ok (.ifCond .lt 12, 3) by decide +kernel) (by decide) xcb_lt
theorem pX4_command_24 : xX E mX4_command 24 [l0, l1, some (.int x), l3, l4] st S V Q ↔ xX E mX4_command 25 [l0, l1, some (.int x), l3, l4] (.int x :: st) S V Q := xi (show decode cX4_command 24 = .ok (.iload_n 2, 1) by decide +kernel) rfl
theorem pX4_command_25 : xX E mX4_command 25 [l0, l1, l2, l3, some (.ref a)] st S V Q ↔ xX E mX4_command 27 [l0, l1, l2, l3, some (.ref a)] (.ref a :: st) S V Q := xi (show decode cX4_command 25 = .ok (.aload 4, 2) by decide +kernel) rfl
theorem pX4_command_27 (h : xkd S a = 1) : xX E mX4_command 27 [l0, l1, l2, l3, l4] (.ref a :: st) S V Q ↔ xX E mX4_command 30 [l0, l1, l2, l3, l4] (.int (V a 4) :: st) S V Q := xi_getI (show decode cX4_command 27 = .ok (.getfield 53, 3) by decide +kernel) xft_4_53 rfl h
theorem pX4_command_30 : xX E mX4_command 30 [l0, l1, l2, l3, l4] (.int y :: .int x :: st) S V Q ↔ if x < y then xX E mX4_command 35 [l0, l1, l2, l3, l4] st S V Q else xX E mX4_command 33 [l0, l1, l2, l3, l4] st S V Q := xi_icmp (show decode cX4_command 30 = .ok (.if_icmp .lt 5, 3) by decide +kernel) (by decide) xcb_lt
theorem pX4_command_33 : xX E mX4_command 33 [l0, l1, l2, l3, l4] st S V Q ↔ xX E mX4_command 34 [l0, l1, l2, l3, l4] (.int (-1) :: st) S V Q := xi (show decode cX4_command 33 = .ok (.iconst (-1), 1) by decide +kernel) rfl
theorem pX4_command_34 : xX E mX4_command 34 [l0, l1, l2, l3, l4] [.int x] S V Q ↔ Q (some (.int x)) S V := xi_retI (show decode cX4_command 34 = .ok (.ireturn, 1) by decide +kernel) rfl
theorem pX4_command_35 : xX E mX4_command 35 [l0, l1, l2, some (.int x), l4] st S V Q ↔ xX E mX4_command 36 [l0, l1, l2, some (.int x), l4] (.int x :: st) S V Q := xi (show decode cX4_command 35 = .ok (.iload_n 3, 1) by decide +kernel) rfl
theorem pX4_command_36_k0 : xX E mX4_command 36 [l0, l1, l2, l3, l4] (.int (nI 0) :: st) S V Q ↔ xX E mX4_command 64 [l0, l1, l2, l3, l4] st S V Q := xi_tab (off := 28) (show decode cX4_command 36 = .ok (.tableswitch 62 0 2 #[28, 36, 44], 28) by decide +kernel) (by decide) (by decide) (by decide)
theorem pX4_command_36_k1 : xX E mX4_command 36 [l0, l1, l2, l3, l4] (.int (nI 1) :: st) S V Q ↔ xX E mX4_command 72 [l0, l1, l2, l3, l4] st S V Q := xi_tab (off := 36) (show decode cX4_command 36 = .ok (.tableswitch 62 0 2 #[28, 36, 44], 28) by decide +kernel) (by decide) (by decide) (by decide)
theorem pX4_command_36_k2 : xX E mX4_command 36 [l0, l1, l2, l3, l4] (.int (nI 2) :: st) S V Q ↔ xX E mX4_command 80 [l0, l1, l2, l3, l4] st S V Q := xi_tab (off := 44) (show decode cX4_command 36 = .ok (.tableswitch 62 0 2 #[28, 36, 44], 28) by decide +kernel) (by decide) (by decide) (by decide)
theorem pX4_command_36_d (h : x.toInt < 0 ∨ 2 < x.toInt) : xX E mX4_command 36 [l0, l1, l2, l3, l4] (.int x :: st) S V Q ↔ xX E mX4_command 98 [l0, l1, l2, l3, l4] st S V Q := xi_tab (off := 62) (show decode cX4_command 36 = .ok (.tableswitch 62 0 2 #[28, 36, 44], 28) by decide +kernel) (if_pos h) (by decide) (by decide)
theorem pX4_command_64 : xX E mX4_command 64 [l0, l1, l2, l3, some (.ref a)] st S V Q ↔ xX E mX4_command 66 [l0, l1, l2, l3, some (.ref a)] (.ref a :: st) S V Q := xi (show decode cX4_command 64 = .ok (.aload 4, 2) by decide +kernel) rfl
theorem pX4_command_66 (h : xkd S a = 1) : xX E mX4_command 66 [l0, l1, l2, l3, l4] (.ref a :: st) S V Q ↔ xX E mX4_command 69 [l0, l1, l2, l3, l4] (va_rf (xrf S a 0) :: st) S V Q := xi_getR (show decode cX4_command 66 = .ok (.getfield 148, 3) by decide +kernel) xft_4_148 rfl h
theorem pX4_command_69 : xX E mX4_command 69 [l0, l1, some (.int x), l3, l4] st S V Q ↔ xX E mX4_command 70 [l0, l1, some (.int x), l3, l4] (.int x :: st) S V Q := xi (show decode cX4_command 69 = .ok (.iload_n 2, 1) by decide +kernel) rfl
theorem pX4_command_70 (h : xkd S a = 7 ∨ xkd S a = 14) (hi : b < xln S a) (hn : xln S a < 2147483648) : xX E mX4_command 70 [l0, l1, l2, l3, l4] (.int (nI b) :: .ref a :: st) S V Q ↔ xX E mX4_command 71 [l0, l1, l2, l3, l4] (.int (V a b) :: st) S V Q := xi_iald (show decode cX4_command 70 = .ok (.iaload, 1) by decide +kernel) h hi hn
theorem pX4_command_71 : xX E mX4_command 71 [l0, l1, l2, l3, l4] [.int x] S V Q ↔ Q (some (.int x)) S V := xi_retI (show decode cX4_command 71 = .ok (.ireturn, 1) by decide +kernel) rfl
theorem pX4_command_72 : xX E mX4_command 72 [l0, l1, l2, l3, some (.ref a)] st S V Q ↔ xX E mX4_command 74 [l0, l1, l2, l3, some (.ref a)] (.ref a :: st) S V Q := xi (show decode cX4_command 72 = .ok (.aload 4, 2) by decide +kernel) rfl
theorem pX4_command_74 (h : xkd S a = 1) : xX E mX4_command 74 [l0, l1, l2, l3, l4] (.ref a :: st) S V Q ↔ xX E mX4_command 77 [l0, l1, l2, l3, l4] (va_rf (xrf S a 1) :: st) S V Q := xi_getR (show decode cX4_command 74 = .ok (.getfield 151, 3) by decide +kernel) xft_4_151 rfl h
theorem pX4_command_77 : xX E mX4_command 77 [l0, l1, some (.int x), l3, l4] st S V Q ↔ xX E mX4_command 78 [l0, l1, some (.int x), l3, l4] (.int x :: st) S V Q := xi (show decode cX4_command 77 = .ok (.iload_n 2, 1) by decide +kernel) rfl
theorem pX4_command_78 (h : xkd S a = 7 ∨ xkd S a = 14) (hi : b < xln S a) (hn : xln S a < 2147483648) : xX E mX4_command 78 [l0, l1, l2, l3, l4] (.int (nI b) :: .ref a :: st) S V Q ↔ xX E mX4_command 79 [l0, l1, l2, l3, l4] (.int (V a b) :: st) S V Q := xi_iald (show decode cX4_command 78 = .ok (.iaload, 1) by decide +kernel) h hi hn
theorem pX4_command_79 : xX E mX4_command 79 [l0, l1, l2, l3, l4] [.int x] S V Q ↔ Q (some (.int x)) S V := xi_retI (show decode cX4_command 79 = .ok (.ireturn, 1) by decide +kernel) rfl
theorem pX4_command_80 : xX E mX4_command 80 [l0, l1, l2, l3, some (.ref a)] st S V Q ↔ xX E mX4_command 82 [l0, l1, l2, l3, some (.ref a)] (.ref a :: st) S V Q := xi (show decode cX4_command 80 = .ok (.aload 4, 2) by decide +kernel) rfl
theorem pX4_command_82 (h : xkd S a = 1) : xX E mX4_command 82 [l0, l1, l2, l3, l4] (.ref a :: st) S V Q ↔ xX E mX4_command 85 [l0, l1, l2, l3, l4] (.int (V a 5) :: st) S V Q := xi_getI (show decode cX4_command 82 = .ok (.getfield 154, 3) by decide +kernel) xft_4_154 rfl h
theorem pX4_command_85 : xX E mX4_command 85 [l0, l1, some (.int x), l3, l4] st S V Q ↔ xX E mX4_command 86 [l0, l1, some (.int x), l3, l4] (.int x :: st) S V Q := xi (show decode cX4_command 85 = .ok (.iload_n 2, 1) by decide +kernel) rfl
theorem pX4_command_86 {x0 : Int32} {x1 : Int32} (hc : xcat st ≤ 8) : xX E mX4_command 86 [l0, l1, l2, l3, l4] (.int x1 :: .int x0 :: st) S V Q ↔ xC E mX4_has [.int x0, .int x1] S V (fun v S V => xX E mX4_command 89 [l0, l1, l2, l3, l4] (v.toList ++ st) S V Q) := xi_callS (as := [.int x0, .int x1]) (show decode cX4_command 86 = .ok (.invokestatic 142, 3) by decide +kernel) xct_4_142 (by decide) rfl rfl (by decide) (Nat.le_of_ble_eq_true rfl) hc
theorem pX4_command_89 : xX E mX4_command 89 [l0, l1, l2, l3, l4] (.int x :: st) S V Q ↔ if x = nI 0 then xX E mX4_command 96 [l0, l1, l2, l3, l4] st S V Q else xX E mX4_command 92 [l0, l1, l2, l3, l4] st S V Q := xi_if (show decode cX4_command 89 = .ok (.ifCond .eq 7, 3) by decide +kernel) (by decide) xcb_eq
theorem pX4_command_92 : xX E mX4_command 92 [l0, l1, l2, l3, l4] st S V Q ↔ xX E mX4_command 93 [l0, l1, l2, l3, l4] (.int (nI 1) :: st) S V Q := xi (show decode cX4_command 92 = .ok (.iconst 1, 1) by decide +kernel) rfl
theorem pX4_command_93 : xX E mX4_command 93 [l0, l1, l2, l3, l4] st S V Q ↔ xX E mX4_command 97 [l0, l1, l2, l3, l4] st S V Q := xi_goto (show decode cX4_command 93 = .ok (.goto 4, 3) by decide +kernel) (by decide)
theorem pX4_command_96 : xX E mX4_command 96 [l0, l1, l2, l3, l4] st S V Q ↔ xX E mX4_command 97 [l0, l1, l2, l3, l4] (.int (nI 0) :: st) S V Q := xi (show decode cX4_command 96 = .ok (.iconst 0, 1) by decide +kernel) rfl
theorem pX4_command_97 : xX E mX4_command 97 [l0, l1, l2, l3, l4] [.int x] S V Q ↔ Q (some (.int x)) S V := xi_retI (show decode cX4_command 97 = .ok (.ireturn, 1) by decide +kernel) rfl
theorem pX4_command_98 : xX E mX4_command 98 [l0, l1, l2, l3, l4] st S V Q ↔ xX E mX4_command 100 [l0, l1, l2, l3, l4] (.int (-2) :: st) S V Q := xi (show decode cX4_command 98 = .ok (.bipush (-2), 2) by decide +kernel) rfl
theorem pX4_command_100 : xX E mX4_command 100 [l0, l1, l2, l3, l4] [.int x] S V Q ↔ Q (some (.int x)) S V := xi_retI (show decode cX4_command 100 = .ok (.ireturn, 1) by decide +kernel) rfl
-- TurnSlots.holder(I)I
theorem pX4_holder_0 : xX E mX4_holder 0 [l0, some (.int x)] st S V Q ↔ xX E mX4_holder 1 [l0, some (.int x)] (.int x :: st) S V Q := xi (show decode cX4_holder 0 = .ok (.iload_n 1, 1) by decide +kernel) rfl
theorem pX4_holder_1 {x0 : Int32} (hc : xcat st ≤ 8) : xX E mX4_holder 1 [l0, l1] (.int x0 :: st) S V Q ↔ xC E mX4_isLock [.int x0] S V (fun v S V => xX E mX4_holder 4 [l0, l1] (v.toList ++ st) S V Q) := xi_callS (as := [.int x0]) (show decode cX4_holder 1 = .ok (.invokestatic 94, 3) by decide +kernel) xct_4_94 (by decide) rfl rfl (by decide) (Nat.le_of_ble_eq_true rfl) hc
theorem pX4_holder_4 : xX E mX4_holder 4 [l0, l1] (.int x :: st) S V Q ↔ if ¬ x = nI 0 then xX E mX4_holder 9 [l0, l1] st S V Q else xX E mX4_holder 7 [l0, l1] st S V Q := xi_if (show decode cX4_holder 4 = .ok (.ifCond .ne 5, 3) by decide +kernel) (by decide) xcb_ne
theorem pX4_holder_7 : xX E mX4_holder 7 [l0, l1] st S V Q ↔ xX E mX4_holder 8 [l0, l1] (.int (-1) :: st) S V Q := xi (show decode cX4_holder 7 = .ok (.iconst (-1), 1) by decide +kernel) rfl
theorem pX4_holder_8 : xX E mX4_holder 8 [l0, l1] [.int x] S V Q ↔ Q (some (.int x)) S V := xi_retI (show decode cX4_holder 8 = .ok (.ireturn, 1) by decide +kernel) rfl
theorem pX4_holder_9 : xX E mX4_holder 9 [some (.ref a), l1] st S V Q ↔ xX E mX4_holder 10 [some (.ref a), l1] (.ref a :: st) S V Q := xi (show decode cX4_holder 9 = .ok (.aload_n 0, 1) by decide +kernel) rfl
theorem pX4_holder_10 (h : xkd S a = 5) : xX E mX4_holder 10 [l0, l1] (.ref a :: st) S V Q ↔ xX E mX4_holder 13 [l0, l1] (va_rf (xrf S a 0) :: st) S V Q := xi_getR (show decode cX4_holder 10 = .ok (.getfield 10, 3) by decide +kernel) xft_4_10 rfl h
theorem pX4_holder_13 (h : xkd S a = 3) : xX E mX4_holder 13 [l0, l1] (.ref a :: st) S V Q ↔ xX E mX4_holder 16 [l0, l1] (va_rf (xrf S a 1) :: st) S V Q := xi_getR (show decode cX4_holder 13 = .ok (.getfield 97, 3) by decide +kernel) xft_4_97 rfl h
theorem pX4_holder_16 : xX E mX4_holder 16 [l0, some (.int x)] st S V Q ↔ xX E mX4_holder 17 [l0, some (.int x)] (.int x :: st) S V Q := xi (show decode cX4_holder 16 = .ok (.iload_n 1, 1) by decide +kernel) rfl
theorem pX4_holder_17 (h : xkd S a = 7 ∨ xkd S a = 14) (hi : b < xln S a) (hn : xln S a < 2147483648) : xX E mX4_holder 17 [l0, l1] (.int (nI b) :: .ref a :: st) S V Q ↔ xX E mX4_holder 18 [l0, l1] (.int (V a b) :: st) S V Q := xi_iald (show decode cX4_holder 17 = .ok (.iaload, 1) by decide +kernel) h hi hn
theorem pX4_holder_18 : xX E mX4_holder 18 [l0, l1] [.int x] S V Q ↔ Q (some (.int x)) S V := xi_retI (show decode cX4_holder 18 = .ok (.ireturn, 1) by decide +kernel) rfl
-- TurnSlots.inbox(II)I
theorem pX4_inbox_0 : xX E mX4_inbox 0 [l0, some (.int x), l2, l3] st S V Q ↔ xX E mX4_inbox 1 [l0, some (.int x), l2, l3] (.int x :: st) S V Q := xi (show decode cX4_inbox 0 = .ok (.iload_n 1, 1) by decide +kernel) rfl
theorem pX4_inbox_1 {x0 : Int32} (hc : xcat st ≤ 8) : xX E mX4_inbox 1 [l0, l1, l2, l3] (.int x0 :: st) S V Q ↔ xC E mX4_isContext [.int x0] S V (fun v S V => xX E mX4_inbox 4 [l0, l1, l2, l3] (v.toList ++ st) S V Q) := xi_callS (as := [.int x0]) (show decode cX4_inbox 1 = .ok (.invokestatic 41, 3) by decide +kernel) xct_4_41 (by decide) rfl rfl (by decide) (Nat.le_of_ble_eq_true rfl) hc
theorem pX4_inbox_4 : xX E mX4_inbox 4 [l0, l1, l2, l3] (.int x :: st) S V Q ↔ if ¬ x = nI 0 then xX E mX4_inbox 9 [l0, l1, l2, l3] st S V Q else xX E mX4_inbox 7 [l0, l1, l2, l3] st S V Q := xi_if (show decode cX4_inbox 4 = .ok (.ifCond .ne 5, 3) by decide +kernel) (by decide) xcb_ne
theorem pX4_inbox_7 : xX E mX4_inbox 7 [l0, l1, l2, l3] st S V Q ↔ xX E mX4_inbox 8 [l0, l1, l2, l3] (.int (-1) :: st) S V Q := xi (show decode cX4_inbox 7 = .ok (.iconst (-1), 1) by decide +kernel) rfl
theorem pX4_inbox_8 : xX E mX4_inbox 8 [l0, l1, l2, l3] [.int x] S V Q ↔ Q (some (.int x)) S V := xi_retI (show decode cX4_inbox 8 = .ok (.ireturn, 1) by decide +kernel) rfl
theorem pX4_inbox_9 : xX E mX4_inbox 9 [some (.ref a), l1, l2, l3] st S V Q ↔ xX E mX4_inbox 10 [some (.ref a), l1, l2, l3] (.ref a :: st) S V Q := xi (show decode cX4_inbox 9 = .ok (.aload_n 0, 1) by decide +kernel) rfl
theorem pX4_inbox_10 (h : xkd S a = 5) : xX E mX4_inbox 10 [l0, l1, l2, l3] (.ref a :: st) S V Q ↔ xX E mX4_inbox 13 [l0, l1, l2, l3] (va_rf (xrf S a 0) :: st) S V Q := xi_getR (show decode cX4_inbox 10 = .ok (.getfield 10, 3) by decide +kernel) xft_4_10 rfl h
theorem pX4_inbox_13 (h : xkd S a = 3) : xX E mX4_inbox 13 [l0, l1, l2, l3] (.ref a :: st) S V Q ↔ xX E mX4_inbox 16 [l0, l1, l2, l3] (va_rf (xrf S a 0) :: st) S V Q := xi_getR (show decode cX4_inbox 13 = .ok (.getfield 49, 3) by decide +kernel) xft_4_49 rfl h
theorem pX4_inbox_16 : xX E mX4_inbox 16 [l0, some (.int x), l2, l3] st S V Q ↔ xX E mX4_inbox 17 [l0, some (.int x), l2, l3] (.int x :: st) S V Q := xi (show decode cX4_inbox 16 = .ok (.iload_n 1, 1) by decide +kernel) rfl
theorem pX4_inbox_17 (h : xkd S a = 10 ∨ xkd S a = 11) (hi : b < xln S a) (hn : xln S a < 2147483648) : xX E mX4_inbox 17 [l0, l1, l2, l3] (.int (nI b) :: .ref a :: st) S V Q ↔ xX E mX4_inbox 18 [l0, l1, l2, l3] (va_rf (xrf S a b) :: st) S V Q := xi_aald (show decode cX4_inbox 17 = .ok (.aaload, 1) by decide +kernel) h hi hn
theorem pX4_inbox_18 (h : xnl l2 = true) : xX E mX4_inbox 18 [l0, l1, l2, l3] (.ref a :: st) S V Q ↔ xX E mX4_inbox 19 [l0, l1, l2, some (.ref a)] st S V Q := xi_st1 (j := 2) (v := .ref a) (show decode cX4_inbox 18 = .ok (.astore_n 3, 1) by decide +kernel) rfl h rfl rfl
theorem pX4_inbox_19 : xX E mX4_inbox 19 [l0, l1, some (.int x), l3] st S V Q ↔ xX E mX4_inbox 20 [l0, l1, some (.int x), l3] (.int x :: st) S V Q := xi (show decode cX4_inbox 19 = .ok (.iload_n 2, 1) by decide +kernel) rfl
theorem pX4_inbox_20 : xX E mX4_inbox 20 [l0, l1, l2, l3] (.int x :: st) S V Q ↔ if x < nI 0 then xX E mX4_inbox 31 [l0, l1, l2, l3] st S V Q else xX E mX4_inbox 23 [l0, l1, l2, l3] st S V Q := xi_if (show decode cX4_inbox 20 = .ok (.ifCond .lt 11, 3) by decide +kernel) (by decide) xcb_lt
theorem pX4_inbox_23 : xX E mX4_inbox 23 [l0, l1, some (.int x), l3] st S V Q ↔ xX E mX4_inbox 24 [l0, l1, some (.int x), l3] (.int x :: st) S V Q := xi (show decode cX4_inbox 23 = .ok (.iload_n 2, 1) by decide +kernel) rfl
theorem pX4_inbox_24 : xX E mX4_inbox 24 [l0, l1, l2, some (.ref a)] st S V Q ↔ xX E mX4_inbox 25 [l0, l1, l2, some (.ref a)] (.ref a :: st) S V Q := xi (show decode cX4_inbox 24 = .ok (.aload_n 3, 1) by decide +kernel) rfl
theorem pX4_inbox_25 (h : xkd S a = 1) : xX E mX4_inbox 25 [l0, l1, l2, l3] (.ref a :: st) S V Q ↔ xX E mX4_inbox 28 [l0, l1, l2, l3] (.int (V a 9) :: st) S V Q := xi_getI (show decode cX4_inbox 25 = .ok (.getfield 87, 3) by decide +kernel) xft_4_87 rfl h
theorem pX4_inbox_28 : xX E mX4_inbox 28 [l0, l1, l2, l3] (.int y :: .int x :: st) S V Q ↔ if x < y then xX E mX4_inbox 33 [l0, l1, l2, l3] st S V Q else xX E mX4_inbox 31 [l0, l1, l2, l3] st S V Q := xi_icmp (show decode cX4_inbox 28 = .ok (.if_icmp .lt 5, 3) by decide +kernel) (by decide) xcb_lt
theorem pX4_inbox_31 : xX E mX4_inbox 31 [l0, l1, l2, l3] st S V Q ↔ xX E mX4_inbox 32 [l0, l1, l2, l3] (.int (-1) :: st) S V Q := xi (show decode cX4_inbox 31 = .ok (.iconst (-1), 1) by decide +kernel) rfl
theorem pX4_inbox_32 : xX E mX4_inbox 32 [l0, l1, l2, l3] [.int x] S V Q ↔ Q (some (.int x)) S V := xi_retI (show decode cX4_inbox 32 = .ok (.ireturn, 1) by decide +kernel) rfl
theorem pX4_inbox_33 : xX E mX4_inbox 33 [l0, l1, l2, some (.ref a)] st S V Q ↔ xX E mX4_inbox 34 [l0, l1, l2, some (.ref a)] (.ref a :: st) S V Q := xi (show decode cX4_inbox 33 = .ok (.aload_n 3, 1) by decide +kernel) rfl
theorem pX4_inbox_34 (h : xkd S a = 1) : xX E mX4_inbox 34 [l0, l1, l2, l3] (.ref a :: st) S V Q ↔ xX E mX4_inbox 37 [l0, l1, l2, l3] (va_rf (xrf S a 2) :: st) S V Q := xi_getR (show decode cX4_inbox 34 = .ok (.getfield 157, 3) by decide +kernel) xft_4_157 rfl h
theorem pX4_inbox_37 : xX E mX4_inbox 37 [l0, l1, some (.int x), l3] st S V Q ↔ xX E mX4_inbox 38 [l0, l1, some (.int x), l3] (.int x :: st) S V Q := xi (show decode cX4_inbox 37 = .ok (.iload_n 2, 1) by decide +kernel) rfl
theorem pX4_inbox_38 (h : xkd S a = 7 ∨ xkd S a = 14) (hi : b < xln S a) (hn : xln S a < 2147483648) : xX E mX4_inbox 38 [l0, l1, l2, l3] (.int (nI b) :: .ref a :: st) S V Q ↔ xX E mX4_inbox 39 [l0, l1, l2, l3] (.int (V a b) :: st) S V Q := xi_iald (show decode cX4_inbox 38 = .ok (.iaload, 1) by decide +kernel) h hi hn
theorem pX4_inbox_39 : xX E mX4_inbox 39 [l0, l1, l2, l3] [.int x] S V Q ↔ Q (some (.int x)) S V := xi_retI (show decode cX4_inbox 39 = .ok (.ireturn, 1) by decide +kernel) rfl
-- TurnSlots.save(I)I
theorem pX4_save_0 : xX E mX4_save 0 [l0, some (.int x)] st S V Q ↔ xX E mX4_save 1 [l0, some (.int x)] (.int x :: st) S V Q := xi (show decode cX4_save 0 = .ok (.iload_n 1, 1) by decide +kernel) rfl
theorem pX4_save_1 {x0 : Int32} (hc : xcat st ≤ 8) : xX E mX4_save 1 [l0, l1] (.int x0 :: st) S V Q ↔ xC E mX4_isSave [.int x0] S V (fun v S V => xX E mX4_save 4 [l0, l1] (v.toList ++ st) S V Q) := xi_callS (as := [.int x0]) (show decode cX4_save 1 = .ok (.invokestatic 201, 3) by decide +kernel) xct_4_201 (by decide) rfl rfl (by decide) (Nat.le_of_ble_eq_true rfl) hc
theorem pX4_save_4 : xX E mX4_save 4 [l0, l1] (.int x :: st) S V Q ↔ if ¬ x = nI 0 then xX E mX4_save 10 [l0, l1] st S V Q else xX E mX4_save 7 [l0, l1] st S V Q := xi_if (show decode cX4_save 4 = .ok (.ifCond .ne 6, 3) by decide +kernel) (by decide) xcb_ne
theorem pX4_save_7 : xX E mX4_save 7 [l0, l1] st S V Q ↔ xX E mX4_save 9 [l0, l1] (.int (-2) :: st) S V Q := xi (show decode cX4_save 7 = .ok (.bipush (-2), 2) by decide +kernel) rfl
theorem pX4_save_9 : xX E mX4_save 9 [l0, l1] [.int x] S V Q ↔ Q (some (.int x)) S V := xi_retI (show decode cX4_save 9 = .ok (.ireturn, 1) by decide +kernel) rfl
theorem pX4_save_10 : xX E mX4_save 10 [some (.ref a), l1] st S V Q ↔ xX E mX4_save 11 [some (.ref a), l1] (.ref a :: st) S V Q := xi (show decode cX4_save 10 = .ok (.aload_n 0, 1) by decide +kernel) rfl
theorem pX4_save_11 (h : xkd S a = 5) : xX E mX4_save 11 [l0, l1] (.ref a :: st) S V Q ↔ xX E mX4_save 14 [l0, l1] (va_rf (xrf S a 3) :: st) S V Q := xi_getR (show decode cX4_save 11 = .ok (.getfield 26, 3) by decide +kernel) xft_4_26 rfl h
theorem pX4_save_14 : xX E mX4_save 14 [l0, some (.int x)] st S V Q ↔ xX E mX4_save 15 [l0, some (.int x)] (.int x :: st) S V Q := xi (show decode cX4_save 14 = .ok (.iload_n 1, 1) by decide +kernel) rfl
theorem pX4_save_15 (h : xkd S a = 10 ∨ xkd S a = 11) (hi : b < xln S a) (hn : xln S a < 2147483648) : xX E mX4_save 15 [l0, l1] (.int (nI b) :: .ref a :: st) S V Q ↔ xX E mX4_save 16 [l0, l1] (va_rf (xrf S a b) :: st) S V Q := xi_aald (show decode cX4_save 15 = .ok (.aaload, 1) by decide +kernel) h hi hn
theorem pX4_save_16 : xX E mX4_save 16 [some (.ref a), l1] st S V Q ↔ xX E mX4_save 17 [some (.ref a), l1] (.ref a :: st) S V Q := xi (show decode cX4_save 16 = .ok (.aload_n 0, 1) by decide +kernel) rfl
theorem pX4_save_17 (h : xkd S a = 5) : xX E mX4_save 17 [l0, l1] (.ref a :: st) S V Q ↔ xX E mX4_save 20 [l0, l1] (va_rf (xrf S a 0) :: st) S V Q := xi_getR (show decode cX4_save 17 = .ok (.getfield 10, 3) by decide +kernel) xft_4_10 rfl h
theorem pX4_save_20 {a1 : Nat} (h : xkd S a = 3) (hc : xcat st ≤ 8) : xX E mX4_save 20 [l0, l1] (.ref a1 :: .ref a :: st) S V Q ↔ xC E mX2_copyFrom [.ref a, .ref a1] S V (fun v S V => xX E mX4_save 23 [l0, l1] (v.toList ++ st) S V Q) := xi_callV (as := [.ref a1]) (show decode cX4_save 20 = .ok (.invokevirtual 204, 3) by decide +kernel) xct_4_204 rfl rfl (by decide) (Nat.le_of_ble_eq_true rfl) rfl h hc
theorem pX4_save_23 : xX E mX4_save 23 [some (.ref a), l1] st S V Q ↔ xX E mX4_save 24 [some (.ref a), l1] (.ref a :: st) S V Q := xi (show decode cX4_save 23 = .ok (.aload_n 0, 1) by decide +kernel) rfl
theorem pX4_save_24 (h : xkd S a = 5) : xX E mX4_save 24 [l0, l1] (.ref a :: st) S V Q ↔ xX E mX4_save 27 [l0, l1] (va_rf (xrf S a 4) :: st) S V Q := xi_getR (show decode cX4_save 24 = .ok (.getfield 30, 3) by decide +kernel) xft_4_30 rfl h
theorem pX4_save_27 : xX E mX4_save 27 [l0, some (.int x)] st S V Q ↔ xX E mX4_save 28 [l0, some (.int x)] (.int x :: st) S V Q := xi (show decode cX4_save 27 = .ok (.iload_n 1, 1) by decide +kernel) rfl
theorem pX4_save_28 : xX E mX4_save 28 [l0, l1] st S V Q ↔ xX E mX4_save 29 [l0, l1] (.int (nI 1) :: st) S V Q := xi (show decode cX4_save 28 = .ok (.iconst 1, 1) by decide +kernel) rfl
theorem pX4_save_29 (h : xkd S a = 9) (hi : b < xln S a) (hn : xln S a < 2147483648) (hc : c < 2) : xX E mX4_save 29 [l0, l1] (.int (nI c) :: .int (nI b) :: .ref a :: st) S V Q ↔ xX E mX4_save 30 [l0, l1] st S (xup V a b (nI c)) Q := xi_bast (show decode cX4_save 29 = .ok (.bastore, 1) by decide +kernel) h hi hn hc
theorem pX4_save_30 : xX E mX4_save 30 [some (.ref a), l1] st S V Q ↔ xX E mX4_save 31 [some (.ref a), l1] (.ref a :: st) S V Q := xi (show decode cX4_save 30 = .ok (.aload_n 0, 1) by decide +kernel) rfl
theorem pX4_save_31 (h : xkd S a = 5) : xX E mX4_save 31 [l0, l1] (.ref a :: st) S V Q ↔ xX E mX4_save 34 [l0, l1] (va_rf (xrf S a 0) :: st) S V Q := xi_getR (show decode cX4_save 31 = .ok (.getfield 10, 3) by decide +kernel) xft_4_10 rfl h
theorem pX4_save_34 (h : xkd S a = 3) : xX E mX4_save 34 [l0, l1] (.ref a :: st) S V Q ↔ xX E mX4_save 37 [l0, l1] (.int (V a 3) :: st) S V Q := xi_getI (show decode cX4_save 34 = .ok (.getfield 104, 3) by decide +kernel) xft_4_104 rfl h
theorem pX4_save_37 : xX E mX4_save 37 [l0, l1] [.int x] S V Q ↔ Q (some (.int x)) S V := xi_retI (show decode cX4_save 37 = .ok (.ireturn, 1) by decide +kernel) rfl
-- TurnSlots.tryNow()LTurnSlots$Machine;
theorem pX4_tryNow_0 : xX E mX4_tryNow 0 [some (.ref a)] st S V Q ↔ xX E mX4_tryNow 1 [some (.ref a)] (.ref a :: st) S V Q := xi (show decode cX4_tryNow 0 = .ok (.aload_n 0, 1) by decide +kernel) rfl
theorem pX4_tryNow_1 (h : xkd S a = 5) : xX E mX4_tryNow 1 [l0] (.ref a :: st) S V Q ↔ xX E mX4_tryNow 4 [l0] (va_rf (xrf S a 1) :: st) S V Q := xi_getR (show decode cX4_tryNow 1 = .ok (.getfield 16, 3) by decide +kernel) xft_4_16 rfl h
theorem pX4_tryNow_4 : xX E mX4_tryNow 4 [some (.ref a)] st S V Q ↔ xX E mX4_tryNow 5 [some (.ref a)] (.ref a :: st) S V Q := xi (show decode cX4_tryNow 4 = .ok (.aload_n 0, 1) by decide +kernel) rfl
theorem pX4_tryNow_5 (h : xkd S a = 5) : xX E mX4_tryNow 5 [l0] (.ref a :: st) S V Q ↔ xX E mX4_tryNow 8 [l0] (va_rf (xrf S a 0) :: st) S V Q := xi_getR (show decode cX4_tryNow 5 = .ok (.getfield 10, 3) by decide +kernel) xft_4_10 rfl h
theorem pX4_tryNow_8 {a1 : Nat} (h : xkd S a = 3) (hc : xcat st ≤ 8) : xX E mX4_tryNow 8 [l0] (.ref a1 :: .ref a :: st) S V Q ↔ xC E mX2_copyFrom [.ref a, .ref a1] S V (fun v S V => xX E mX4_tryNow 11 [l0] (v.toList ++ st) S V Q) := xi_callV (as := [.ref a1]) (show decode cX4_tryNow 8 = .ok (.invokevirtual 204, 3) by decide +kernel) xct_4_204 rfl rfl (by decide) (Nat.le_of_ble_eq_true rfl) rfl h hc
theorem pX4_tryNow_11 : xX E mX4_tryNow 11 [some (.ref a)] st S V Q ↔ xX E mX4_tryNow 12 [some (.ref a)] (.ref a :: st) S V Q := xi (show decode cX4_tryNow 11 = .ok (.aload_n 0, 1) by decide +kernel) rfl
theorem pX4_tryNow_12 (h : xkd S a = 5) : xX E mX4_tryNow 12 [l0] (.ref a :: st) S V Q ↔ xX E mX4_tryNow 15 [l0] (va_rf (xrf S a 1) :: st) S V Q := xi_getR (show decode cX4_tryNow 12 = .ok (.getfield 16, 3) by decide +kernel) xft_4_16 rfl h
theorem pX4_tryNow_15 : xX E mX4_tryNow 15 [l0] [.ref a] S V Q ↔ Q (some (.ref a)) S V := xi_retA (show decode cX4_tryNow 15 = .ok (.areturn, 1) by decide +kernel) (Or.inl ⟨_, rfl⟩)
-- TurnSlots.<init>()V
theorem pX4_init_0 : xX E mX4_init 0 [some (.ref a), l1] st S V Q ↔ xX E mX4_init 1 [some (.ref a), l1] (.ref a :: st) S V Q := xi (show decode cX4_init 0 = .ok (.aload_n 0, 1) by decide +kernel) rfl
theorem pX4_init_1 (hc : xcat st ≤ 8) : xX E mX4_init 1 [l0, l1] (.ref a :: st) S V Q ↔ xX E mX4_init 4 [l0, l1] st S V Q := xi_objI (show decode cX4_init 1 = .ok (.invokespecial 1, 3) by decide +kernel) xcn_4_1 (by decide) (by decide) hc
theorem pX4_init_4 : xX E mX4_init 4 [some (.ref a), l1] st S V Q ↔ xX E mX4_init 5 [some (.ref a), l1] (.ref a :: st) S V Q := xi (show decode cX4_init 4 = .ok (.aload_n 0, 1) by decide +kernel) rfl
theorem pX4_init_5 : xX E mX4_init 5 [l0, l1] st S V Q ↔ xX E mX4_init 8 [l0, l1] (.ref S.2.1 :: st) (xnew S 3 0 6) (xrow V S.2.1 (fun _ => 0)) Q := xi_new (show decode cX4_init 5 = .ok (.new 7, 3) by decide +kernel) xkt_4_7
theorem pX4_init_8 : xX E mX4_init 8 [l0, l1] (.ref a :: st) S V Q ↔ xX E mX4_init 9 [l0, l1] (.ref a :: .ref a :: st) S V Q := xi (show decode cX4_init 8 = .ok (.dup, 1) by decide +kernel) rfl
theorem pX4_init_8i : xX E mX4_init 8 [l0, l1] (.int x :: st) S V Q ↔ xX E mX4_init 9 [l0, l1] (.int x :: .int x :: st) S V Q := xi (show decode cX4_init 8 = .ok (.dup, 1) by decide +kernel) rfl
theorem pX4_init_9  (hc : xcat st ≤ 8) : xX E mX4_init 9 [l0, l1] (.ref a :: st) S V Q ↔ xC E mX2_init [.ref a] S V (fun v S V => xX E mX4_init 12 [l0, l1] (v.toList ++ st) S V Q) := xi_callI (as := []) (show decode cX4_init 9 = .ok (.invokespecial 9, 3) by decide +kernel) xct_4_9 (by decide) rfl rfl (by decide) (Nat.le_of_ble_eq_true rfl) hc
theorem pX4_init_12 (h : xkd S a = 5) : xX E mX4_init 12 [l0, l1] (.ref b :: .ref a :: st) S V Q ↔ xX E mX4_init 15 [l0, l1] st (xsetr S a 0 (some b)) V Q := xi_putR (show decode cX4_init 12 = .ok (.putfield 10, 3) by decide +kernel) xft_4_10 (by decide) rfl rfl rfl h
theorem pX4_init_15 : xX E mX4_init 15 [some (.ref a), l1] st S V Q ↔ xX E mX4_init 16 [some (.ref a), l1] (.ref a :: st) S V Q := xi (show decode cX4_init 15 = .ok (.aload_n 0, 1) by decide +kernel) rfl
theorem pX4_init_16 : xX E mX4_init 16 [l0, l1] st S V Q ↔ xX E mX4_init 19 [l0, l1] (.ref S.2.1 :: st) (xnew S 3 0 6) (xrow V S.2.1 (fun _ => 0)) Q := xi_new (show decode cX4_init 16 = .ok (.new 7, 3) by decide +kernel) xkt_4_7
theorem pX4_init_19 : xX E mX4_init 19 [l0, l1] (.ref a :: st) S V Q ↔ xX E mX4_init 20 [l0, l1] (.ref a :: .ref a :: st) S V Q := xi (show decode cX4_init 19 = .ok (.dup, 1) by decide +kernel) rfl
theorem pX4_init_19i : xX E mX4_init 19 [l0, l1] (.int x :: st) S V Q ↔ xX E mX4_init 20 [l0, l1] (.int x :: .int x :: st) S V Q := xi (show decode cX4_init 19 = .ok (.dup, 1) by decide +kernel) rfl
theorem pX4_init_20  (hc : xcat st ≤ 8) : xX E mX4_init 20 [l0, l1] (.ref a :: st) S V Q ↔ xC E mX2_init [.ref a] S V (fun v S V => xX E mX4_init 23 [l0, l1] (v.toList ++ st) S V Q) := xi_callI (as := []) (show decode cX4_init 20 = .ok (.invokespecial 9, 3) by decide +kernel) xct_4_9 (by decide) rfl rfl (by decide) (Nat.le_of_ble_eq_true rfl) hc
theorem pX4_init_23 (h : xkd S a = 5) : xX E mX4_init 23 [l0, l1] (.ref b :: .ref a :: st) S V Q ↔ xX E mX4_init 26 [l0, l1] st (xsetr S a 1 (some b)) V Q := xi_putR (show decode cX4_init 23 = .ok (.putfield 16, 3) by decide +kernel) xft_4_16 (by decide) rfl rfl rfl h
theorem pX4_init_26 : xX E mX4_init 26 [some (.ref a), l1] st S V Q ↔ xX E mX4_init 27 [some (.ref a), l1] (.ref a :: st) S V Q := xi (show decode cX4_init 26 = .ok (.aload_n 0, 1) by decide +kernel) rfl
theorem pX4_init_27 : xX E mX4_init 27 [l0, l1] st S V Q ↔ xX E mX4_init 30 [l0, l1] (.ref S.2.1 :: st) (xnew S 2 0 3) (xrow V S.2.1 (fun _ => 0)) Q := xi_new (show decode cX4_init 27 = .ok (.new 19, 3) by decide +kernel) xkt_4_19
theorem pX4_init_30 : xX E mX4_init 30 [l0, l1] (.ref a :: st) S V Q ↔ xX E mX4_init 31 [l0, l1] (.ref a :: .ref a :: st) S V Q := xi (show decode cX4_init 30 = .ok (.dup, 1) by decide +kernel) rfl
theorem pX4_init_30i : xX E mX4_init 30 [l0, l1] (.int x :: st) S V Q ↔ xX E mX4_init 31 [l0, l1] (.int x :: .int x :: st) S V Q := xi (show decode cX4_init 30 = .ok (.dup, 1) by decide +kernel) rfl
theorem pX4_init_31  (hc : xcat st ≤ 8) : xX E mX4_init 31 [l0, l1] (.ref a :: st) S V Q ↔ xC E mX1_init [.ref a] S V (fun v S V => xX E mX4_init 34 [l0, l1] (v.toList ++ st) S V Q) := xi_callI (as := []) (show decode cX4_init 31 = .ok (.invokespecial 21, 3) by decide +kernel) xct_4_21 (by decide) rfl rfl (by decide) (Nat.le_of_ble_eq_true rfl) hc
theorem pX4_init_34 (h : xkd S a = 5) : xX E mX4_init 34 [l0, l1] (.ref b :: .ref a :: st) S V Q ↔ xX E mX4_init 37 [l0, l1] st (xsetr S a 2 (some b)) V Q := xi_putR (show decode cX4_init 34 = .ok (.putfield 22, 3) by decide +kernel) xft_4_22 (by decide) rfl rfl rfl h
theorem pX4_init_37 : xX E mX4_init 37 [some (.ref a), l1] st S V Q ↔ xX E mX4_init 38 [some (.ref a), l1] (.ref a :: st) S V Q := xi (show decode cX4_init 37 = .ok (.aload_n 0, 1) by decide +kernel) rfl
theorem pX4_init_38 : xX E mX4_init 38 [l0, l1] st S V Q ↔ xX E mX4_init 39 [l0, l1] (.int (nI 2) :: st) S V Q := xi (show decode cX4_init 38 = .ok (.iconst 2, 1) by decide +kernel) rfl
theorem pX4_init_39 (h : a ≤ 10000) : xX E mX4_init 39 [l0, l1] (.int (nI a) :: st) S V Q ↔ xX E mX4_init 42 [l0, l1] (.ref S.2.1 :: st) (xnew S 11 a a) (xrow V S.2.1 (fun _ => 0)) Q := xi_anewarr (show decode cX4_init 39 = .ok (.anewarray 7, 3) by decide +kernel) xkt_4_7 (Or.inr ⟨rfl, rfl⟩) h
theorem pX4_init_42 (h : xkd S a = 5) : xX E mX4_init 42 [l0, l1] (.ref b :: .ref a :: st) S V Q ↔ xX E mX4_init 45 [l0, l1] st (xsetr S a 3 (some b)) V Q := xi_putR (show decode cX4_init 42 = .ok (.putfield 26, 3) by decide +kernel) xft_4_26 (by decide) rfl rfl rfl h
theorem pX4_init_45 : xX E mX4_init 45 [some (.ref a), l1] st S V Q ↔ xX E mX4_init 46 [some (.ref a), l1] (.ref a :: st) S V Q := xi (show decode cX4_init 45 = .ok (.aload_n 0, 1) by decide +kernel) rfl
theorem pX4_init_46 : xX E mX4_init 46 [l0, l1] st S V Q ↔ xX E mX4_init 47 [l0, l1] (.int (nI 2) :: st) S V Q := xi (show decode cX4_init 46 = .ok (.iconst 2, 1) by decide +kernel) rfl
theorem pX4_init_47 (h : a ≤ 10000) : xX E mX4_init 47 [l0, l1] (.int (nI a) :: st) S V Q ↔ xX E mX4_init 49 [l0, l1] (.ref S.2.1 :: st) (xnew S 9 a a) (xrow V S.2.1 (fun _ => 0)) Q := xi_newarr (show decode cX4_init 47 = .ok (.newarray .boolean, 2) by decide +kernel) (Or.inr (Or.inr ⟨rfl, rfl⟩)) h
theorem pX4_init_49 (h : xkd S a = 5) : xX E mX4_init 49 [l0, l1] (.ref b :: .ref a :: st) S V Q ↔ xX E mX4_init 52 [l0, l1] st (xsetr S a 4 (some b)) V Q := xi_putR (show decode cX4_init 49 = .ok (.putfield 30, 3) by decide +kernel) xft_4_30 (by decide) rfl rfl rfl h
theorem pX4_init_52 : xX E mX4_init 52 [some (.ref a), l1] st S V Q ↔ xX E mX4_init 53 [some (.ref a), l1] (.ref a :: st) S V Q := xi (show decode cX4_init 52 = .ok (.aload_n 0, 1) by decide +kernel) rfl
theorem pX4_init_53 : xX E mX4_init 53 [l0, l1] st S V Q ↔ xX E mX4_init 56 [l0, l1] (.ref S.2.1 :: st) (xnew S 4 0 7) (xrow V S.2.1 (fun _ => 0)) Q := xi_new (show decode cX4_init 53 = .ok (.new 34, 3) by decide +kernel) xkt_4_34
theorem pX4_init_56 : xX E mX4_init 56 [l0, l1] (.ref a :: st) S V Q ↔ xX E mX4_init 57 [l0, l1] (.ref a :: .ref a :: st) S V Q := xi (show decode cX4_init 56 = .ok (.dup, 1) by decide +kernel) rfl
theorem pX4_init_56i : xX E mX4_init 56 [l0, l1] (.int x :: st) S V Q ↔ xX E mX4_init 57 [l0, l1] (.int x :: .int x :: st) S V Q := xi (show decode cX4_init 56 = .ok (.dup, 1) by decide +kernel) rfl
theorem pX4_init_57  (hc : xcat st ≤ 8) : xX E mX4_init 57 [l0, l1] (.ref a :: st) S V Q ↔ xC E mX3_init [.ref a] S V (fun v S V => xX E mX4_init 60 [l0, l1] (v.toList ++ st) S V Q) := xi_callI (as := []) (show decode cX4_init 57 = .ok (.invokespecial 36, 3) by decide +kernel) xct_4_36 (by decide) rfl rfl (by decide) (Nat.le_of_ble_eq_true rfl) hc
theorem pX4_init_60 (h : xkd S a = 5) : xX E mX4_init 60 [l0, l1] (.ref b :: .ref a :: st) S V Q ↔ xX E mX4_init 63 [l0, l1] st (xsetr S a 5 (some b)) V Q := xi_putR (show decode cX4_init 60 = .ok (.putfield 37, 3) by decide +kernel) xft_4_37 (by decide) rfl rfl rfl h
theorem pX4_init_63 : xX E mX4_init 63 [l0, l1] st S V Q ↔ xX E mX4_init 64 [l0, l1] (.int (nI 0) :: st) S V Q := xi (show decode cX4_init 63 = .ok (.iconst 0, 1) by decide +kernel) rfl
theorem pX4_init_64 (h : xnl l0 = true) : xX E mX4_init 64 [l0, l1] (.int x :: st) S V Q ↔ xX E mX4_init 65 [l0, some (.int x)] st S V Q := xi_st1 (j := 0) (v := .int x) (show decode cX4_init 64 = .ok (.istore_n 1, 1) by decide +kernel) rfl h rfl rfl
theorem pX4_init_65 : xX E mX4_init 65 [l0, some (.int x)] st S V Q ↔ xX E mX4_init 66 [l0, some (.int x)] (.int x :: st) S V Q := xi (show decode cX4_init 65 = .ok (.iload_n 1, 1) by decide +kernel) rfl
theorem pX4_init_66 : xX E mX4_init 66 [l0, l1] st S V Q ↔ xX E mX4_init 67 [l0, l1] (.int (nI 2) :: st) S V Q := xi (show decode cX4_init 66 = .ok (.iconst 2, 1) by decide +kernel) rfl
theorem pX4_init_67 : xX E mX4_init 67 [l0, l1] (.int y :: .int x :: st) S V Q ↔ if y ≤ x then xX E mX4_init 89 [l0, l1] st S V Q else xX E mX4_init 70 [l0, l1] st S V Q := xi_icmp (show decode cX4_init 67 = .ok (.if_icmp .ge 22, 3) by decide +kernel) (by decide) xcb_ge
theorem pX4_init_70 : xX E mX4_init 70 [some (.ref a), l1] st S V Q ↔ xX E mX4_init 71 [some (.ref a), l1] (.ref a :: st) S V Q := xi (show decode cX4_init 70 = .ok (.aload_n 0, 1) by decide +kernel) rfl
theorem pX4_init_71 (h : xkd S a = 5) : xX E mX4_init 71 [l0, l1] (.ref a :: st) S V Q ↔ xX E mX4_init 74 [l0, l1] (va_rf (xrf S a 3) :: st) S V Q := xi_getR (show decode cX4_init 71 = .ok (.getfield 26, 3) by decide +kernel) xft_4_26 rfl h
theorem pX4_init_74 : xX E mX4_init 74 [l0, some (.int x)] st S V Q ↔ xX E mX4_init 75 [l0, some (.int x)] (.int x :: st) S V Q := xi (show decode cX4_init 74 = .ok (.iload_n 1, 1) by decide +kernel) rfl
theorem pX4_init_75 : xX E mX4_init 75 [l0, l1] st S V Q ↔ xX E mX4_init 78 [l0, l1] (.ref S.2.1 :: st) (xnew S 3 0 6) (xrow V S.2.1 (fun _ => 0)) Q := xi_new (show decode cX4_init 75 = .ok (.new 7, 3) by decide +kernel) xkt_4_7
theorem pX4_init_78 : xX E mX4_init 78 [l0, l1] (.ref a :: st) S V Q ↔ xX E mX4_init 79 [l0, l1] (.ref a :: .ref a :: st) S V Q := xi (show decode cX4_init 78 = .ok (.dup, 1) by decide +kernel) rfl
theorem pX4_init_78i : xX E mX4_init 78 [l0, l1] (.int x :: st) S V Q ↔ xX E mX4_init 79 [l0, l1] (.int x :: .int x :: st) S V Q := xi (show decode cX4_init 78 = .ok (.dup, 1) by decide +kernel) rfl
theorem pX4_init_79  (hc : xcat st ≤ 8) : xX E mX4_init 79 [l0, l1] (.ref a :: st) S V Q ↔ xC E mX2_init [.ref a] S V (fun v S V => xX E mX4_init 82 [l0, l1] (v.toList ++ st) S V Q) := xi_callI (as := []) (show decode cX4_init 79 = .ok (.invokespecial 9, 3) by decide +kernel) xct_4_9 (by decide) rfl rfl (by decide) (Nat.le_of_ble_eq_true rfl) hc
theorem pX4_init_82 (h : (xkd S a = 10 ∧ xkd S c = 1) ∨ (xkd S a = 11 ∧ xkd S c = 3)) (hi : b < xln S a) (hn : xln S a < 2147483648) : xX E mX4_init 82 [l0, l1] (.ref c :: .int (nI b) :: .ref a :: st) S V Q ↔ xX E mX4_init 83 [l0, l1] st (xsetr S a b (some c)) V Q := xi_aast (show decode cX4_init 82 = .ok (.aastore, 1) by decide +kernel) h hi hn
theorem pX4_init_83 (h : xnl l0 = true) : xX E mX4_init 83 [l0, some (.int (nI a))] st S V Q ↔ xX E mX4_init 86 [l0, some (.int (nI (a + 1)))] st S V Q := xi_iinc (j := 0) (show decode cX4_init 83 = .ok (.iinc 1 1, 3) by decide +kernel) rfl h rfl (nI_add a 1) (Nat.le_of_ble_eq_true rfl) rfl
theorem pX4_init_86 : xX E mX4_init 86 [l0, l1] st S V Q ↔ xX E mX4_init 65 [l0, l1] st S V Q := xi_goto (show decode cX4_init 86 = .ok (.goto (-21), 3) by decide +kernel) (by decide)
theorem pX4_init_89 : xX E mX4_init 89 [l0, l1] [] S V Q ↔ Q none S V := xi_retV (show decode cX4_init 89 = .ok (.return_, 1) by decide +kernel) rfl
-- TurnSlots.add(III)I
theorem pX4_add_0 : xX E mX4_add 0 [l0, some (.int x), l2, l3, l4] st S V Q ↔ xX E mX4_add 1 [l0, some (.int x), l2, l3, l4] (.int x :: st) S V Q := xi (show decode cX4_add 0 = .ok (.iload_n 1, 1) by decide +kernel) rfl
theorem pX4_add_1 {x0 : Int32} (hc : xcat st ≤ 8) : xX E mX4_add 1 [l0, l1, l2, l3, l4] (.int x0 :: st) S V Q ↔ xC E mX4_isContext [.int x0] S V (fun v S V => xX E mX4_add 4 [l0, l1, l2, l3, l4] (v.toList ++ st) S V Q) := xi_callS (as := [.int x0]) (show decode cX4_add 1 = .ok (.invokestatic 41, 3) by decide +kernel) xct_4_41 (by decide) rfl rfl (by decide) (Nat.le_of_ble_eq_true rfl) hc
theorem pX4_add_4 : xX E mX4_add 4 [l0, l1, l2, l3, l4] (.int x :: st) S V Q ↔ if ¬ x = nI 0 then xX E mX4_add 9 [l0, l1, l2, l3, l4] st S V Q else xX E mX4_add 7 [l0, l1, l2, l3, l4] st S V Q := xi_if (show decode cX4_add 4 = .ok (.ifCond .ne 5, 3) by decide +kernel) (by decide) xcb_ne
theorem pX4_add_7 : xX E mX4_add 7 [l0, l1, l2, l3, l4] st S V Q ↔ xX E mX4_add 8 [l0, l1, l2, l3, l4] (.int (-1) :: st) S V Q := xi (show decode cX4_add 7 = .ok (.iconst (-1), 1) by decide +kernel) rfl
theorem pX4_add_8 : xX E mX4_add 8 [l0, l1, l2, l3, l4] [.int x] S V Q ↔ Q (some (.int x)) S V := xi_retI (show decode cX4_add 8 = .ok (.ireturn, 1) by decide +kernel) rfl
theorem pX4_add_9 : xX E mX4_add 9 [l0, l1, some (.int x), l3, l4] st S V Q ↔ xX E mX4_add 10 [l0, l1, some (.int x), l3, l4] (.int x :: st) S V Q := xi (show decode cX4_add 9 = .ok (.iload_n 2, 1) by decide +kernel) rfl
theorem pX4_add_10 : xX E mX4_add 10 [l0, l1, l2, some (.int x), l4] st S V Q ↔ xX E mX4_add 11 [l0, l1, l2, some (.int x), l4] (.int x :: st) S V Q := xi (show decode cX4_add 10 = .ok (.iload_n 3, 1) by decide +kernel) rfl
theorem pX4_add_11 {x0 : Int32} {x1 : Int32} (hc : xcat st ≤ 8) : xX E mX4_add 11 [l0, l1, l2, l3, l4] (.int x1 :: .int x0 :: st) S V Q ↔ xC E mX4_isCommand [.int x0, .int x1] S V (fun v S V => xX E mX4_add 14 [l0, l1, l2, l3, l4] (v.toList ++ st) S V Q) := xi_callS (as := [.int x0, .int x1]) (show decode cX4_add 11 = .ok (.invokestatic 45, 3) by decide +kernel) xct_4_45 (by decide) rfl rfl (by decide) (Nat.le_of_ble_eq_true rfl) hc
theorem pX4_add_14 : xX E mX4_add 14 [l0, l1, l2, l3, l4] (.int x :: st) S V Q ↔ if ¬ x = nI 0 then xX E mX4_add 20 [l0, l1, l2, l3, l4] st S V Q else xX E mX4_add 17 [l0, l1, l2, l3, l4] st S V Q := xi_if (show decode cX4_add 14 = .ok (.ifCond .ne 6, 3) by decide +kernel) (by decide) xcb_ne
theorem pX4_add_17 : xX E mX4_add 17 [l0, l1, l2, l3, l4] st S V Q ↔ xX E mX4_add 19 [l0, l1, l2, l3, l4] (.int (-2) :: st) S V Q := xi (show decode cX4_add 17 = .ok (.bipush (-2), 2) by decide +kernel) rfl
theorem pX4_add_19 : xX E mX4_add 19 [l0, l1, l2, l3, l4] [.int x] S V Q ↔ Q (some (.int x)) S V := xi_retI (show decode cX4_add 19 = .ok (.ireturn, 1) by decide +kernel) rfl
theorem pX4_add_20 : xX E mX4_add 20 [some (.ref a), l1, l2, l3, l4] st S V Q ↔ xX E mX4_add 21 [some (.ref a), l1, l2, l3, l4] (.ref a :: st) S V Q := xi (show decode cX4_add 20 = .ok (.aload_n 0, 1) by decide +kernel) rfl
theorem pX4_add_21 (h : xkd S a = 5) : xX E mX4_add 21 [l0, l1, l2, l3, l4] (.ref a :: st) S V Q ↔ xX E mX4_add 24 [l0, l1, l2, l3, l4] (va_rf (xrf S a 0) :: st) S V Q := xi_getR (show decode cX4_add 21 = .ok (.getfield 10, 3) by decide +kernel) xft_4_10 rfl h
theorem pX4_add_24 (h : xkd S a = 3) : xX E mX4_add 24 [l0, l1, l2, l3, l4] (.ref a :: st) S V Q ↔ xX E mX4_add 27 [l0, l1, l2, l3, l4] (va_rf (xrf S a 0) :: st) S V Q := xi_getR (show decode cX4_add 24 = .ok (.getfield 49, 3) by decide +kernel) xft_4_49 rfl h
theorem pX4_add_27 : xX E mX4_add 27 [l0, some (.int x), l2, l3, l4] st S V Q ↔ xX E mX4_add 28 [l0, some (.int x), l2, l3, l4] (.int x :: st) S V Q := xi (show decode cX4_add 27 = .ok (.iload_n 1, 1) by decide +kernel) rfl
theorem pX4_add_28 (h : xkd S a = 10 ∨ xkd S a = 11) (hi : b < xln S a) (hn : xln S a < 2147483648) : xX E mX4_add 28 [l0, l1, l2, l3, l4] (.int (nI b) :: .ref a :: st) S V Q ↔ xX E mX4_add 29 [l0, l1, l2, l3, l4] (va_rf (xrf S a b) :: st) S V Q := xi_aald (show decode cX4_add 28 = .ok (.aaload, 1) by decide +kernel) h hi hn
theorem pX4_add_29 (h : xnl l3 = true) : xX E mX4_add 29 [l0, l1, l2, l3, l4] (.ref a :: st) S V Q ↔ xX E mX4_add 31 [l0, l1, l2, l3, some (.ref a)] st S V Q := xi_st1 (j := 3) (v := .ref a) (show decode cX4_add 29 = .ok (.astore 4, 2) by decide +kernel) rfl h rfl rfl
theorem pX4_add_31 : xX E mX4_add 31 [l0, l1, l2, l3, some (.ref a)] st S V Q ↔ xX E mX4_add 33 [l0, l1, l2, l3, some (.ref a)] (.ref a :: st) S V Q := xi (show decode cX4_add 31 = .ok (.aload 4, 2) by decide +kernel) rfl
theorem pX4_add_33 (h : xkd S a = 1) : xX E mX4_add 33 [l0, l1, l2, l3, l4] (.ref a :: st) S V Q ↔ xX E mX4_add 36 [l0, l1, l2, l3, l4] (.int (V a 4) :: st) S V Q := xi_getI (show decode cX4_add 33 = .ok (.getfield 53, 3) by decide +kernel) xft_4_53 rfl h
theorem pX4_add_36 : xX E mX4_add 36 [l0, l1, l2, l3, l4] st S V Q ↔ xX E mX4_add 38 [l0, l1, l2, l3, l4] (.int (nI 16) :: st) S V Q := xi (show decode cX4_add 36 = .ok (.bipush 16, 2) by decide +kernel) rfl
theorem pX4_add_38 : xX E mX4_add 38 [l0, l1, l2, l3, l4] (.int y :: .int x :: st) S V Q ↔ if x < y then xX E mX4_add 44 [l0, l1, l2, l3, l4] st S V Q else xX E mX4_add 41 [l0, l1, l2, l3, l4] st S V Q := xi_icmp (show decode cX4_add 38 = .ok (.if_icmp .lt 6, 3) by decide +kernel) (by decide) xcb_lt
theorem pX4_add_41 : xX E mX4_add 41 [l0, l1, l2, l3, l4] st S V Q ↔ xX E mX4_add 43 [l0, l1, l2, l3, l4] (.int (-4) :: st) S V Q := xi (show decode cX4_add 41 = .ok (.bipush (-4), 2) by decide +kernel) rfl
theorem pX4_add_43 : xX E mX4_add 43 [l0, l1, l2, l3, l4] [.int x] S V Q ↔ Q (some (.int x)) S V := xi_retI (show decode cX4_add 43 = .ok (.ireturn, 1) by decide +kernel) rfl
theorem pX4_add_44 : xX E mX4_add 44 [some (.ref a), l1, l2, l3, l4] st S V Q ↔ xX E mX4_add 45 [some (.ref a), l1, l2, l3, l4] (.ref a :: st) S V Q := xi (show decode cX4_add 44 = .ok (.aload_n 0, 1) by decide +kernel) rfl
theorem pX4_add_45 (h : xkd S a = 5) : xX E mX4_add 45 [l0, l1, l2, l3, l4] (.ref a :: st) S V Q ↔ xX E mX4_add 48 [l0, l1, l2, l3, l4] (va_rf (xrf S a 2) :: st) S V Q := xi_getR (show decode cX4_add 45 = .ok (.getfield 22, 3) by decide +kernel) xft_4_22 rfl h
theorem pX4_add_48 : xX E mX4_add 48 [some (.ref a), l1, l2, l3, l4] st S V Q ↔ xX E mX4_add 49 [some (.ref a), l1, l2, l3, l4] (.ref a :: st) S V Q := xi (show decode cX4_add 48 = .ok (.aload_n 0, 1) by decide +kernel) rfl
theorem pX4_add_49 (h : xkd S a = 5) : xX E mX4_add 49 [l0, l1, l2, l3, l4] (.ref a :: st) S V Q ↔ xX E mX4_add 52 [l0, l1, l2, l3, l4] (va_rf (xrf S a 0) :: st) S V Q := xi_getR (show decode cX4_add 49 = .ok (.getfield 10, 3) by decide +kernel) xft_4_10 rfl h
theorem pX4_add_52 {a1 : Nat} (h : xkd S a = 2) (hc : xcat st ≤ 8) : xX E mX4_add 52 [l0, l1, l2, l3, l4] (.ref a1 :: .ref a :: st) S V Q ↔ xC E mX1_record [.ref a, .ref a1] S V (fun v S V => xX E mX4_add 55 [l0, l1, l2, l3, l4] (v.toList ++ st) S V Q) := xi_callV (as := [.ref a1]) (show decode cX4_add 52 = .ok (.invokevirtual 59, 3) by decide +kernel) xct_4_59 rfl rfl (by decide) (Nat.le_of_ble_eq_true rfl) rfl h hc
theorem pX4_add_55 : xX E mX4_add 55 [l0, l1, l2, l3, some (.ref a)] st S V Q ↔ xX E mX4_add 57 [l0, l1, l2, l3, some (.ref a)] (.ref a :: st) S V Q := xi (show decode cX4_add 55 = .ok (.aload 4, 2) by decide +kernel) rfl
theorem pX4_add_57 : xX E mX4_add 57 [l0, l1, some (.int x), l3, l4] st S V Q ↔ xX E mX4_add 58 [l0, l1, some (.int x), l3, l4] (.int x :: st) S V Q := xi (show decode cX4_add 57 = .ok (.iload_n 2, 1) by decide +kernel) rfl
theorem pX4_add_58 : xX E mX4_add 58 [l0, l1, l2, some (.int x), l4] st S V Q ↔ xX E mX4_add 59 [l0, l1, l2, some (.int x), l4] (.int x :: st) S V Q := xi (show decode cX4_add 58 = .ok (.iload_n 3, 1) by decide +kernel) rfl
theorem pX4_add_59 {x0 : Int32} {x1 : Int32} (h : xkd S a = 1) (hc : xcat st ≤ 8) : xX E mX4_add 59 [l0, l1, l2, l3, l4] (.int x1 :: .int x0 :: .ref a :: st) S V Q ↔ xC E mX0_append [.ref a, .int x0, .int x1] S V (fun v S V => xX E mX4_add 62 [l0, l1, l2, l3, l4] (v.toList ++ st) S V Q) := xi_callV (as := [.int x0, .int x1]) (show decode cX4_add 59 = .ok (.invokevirtual 63, 3) by decide +kernel) xct_4_63 rfl rfl (by decide) (Nat.le_of_ble_eq_true rfl) rfl h hc
theorem pX4_add_62 : xX E mX4_add 62 [l0, l1, l2, l3, some (.ref a)] st S V Q ↔ xX E mX4_add 64 [l0, l1, l2, l3, some (.ref a)] (.ref a :: st) S V Q := xi (show decode cX4_add 62 = .ok (.aload 4, 2) by decide +kernel) rfl
theorem pX4_add_64 (h : xkd S a = 1) : xX E mX4_add 64 [l0, l1, l2, l3, l4] (.ref a :: st) S V Q ↔ xX E mX4_add 67 [l0, l1, l2, l3, l4] (.int (V a 4) :: st) S V Q := xi_getI (show decode cX4_add 64 = .ok (.getfield 53, 3) by decide +kernel) xft_4_53 rfl h
theorem pX4_add_67 : xX E mX4_add 67 [l0, l1, l2, l3, l4] [.int x] S V Q ↔ Q (some (.int x)) S V := xi_retI (show decode cX4_add 67 = .ok (.ireturn, 1) by decide +kernel) rfl
-- TurnSlots.of(II)I
theorem pX4_of_0 : xX E mX4_of 0 [l0, some (.int x), l2, l3] st S V Q ↔ xX E mX4_of 1 [l0, some (.int x), l2, l3] (.int x :: st) S V Q := xi (show decode cX4_of 0 = .ok (.iload_n 1, 1) by decide +kernel) rfl
theorem pX4_of_1 {x0 : Int32} (hc : xcat st ≤ 8) : xX E mX4_of 1 [l0, l1, l2, l3] (.int x0 :: st) S V Q ↔ xC E mX4_isContext [.int x0] S V (fun v S V => xX E mX4_of 4 [l0, l1, l2, l3] (v.toList ++ st) S V Q) := xi_callS (as := [.int x0]) (show decode cX4_of 1 = .ok (.invokestatic 41, 3) by decide +kernel) xct_4_41 (by decide) rfl rfl (by decide) (Nat.le_of_ble_eq_true rfl) hc
theorem pX4_of_4 : xX E mX4_of 4 [l0, l1, l2, l3] (.int x :: st) S V Q ↔ if ¬ x = nI 0 then xX E mX4_of 9 [l0, l1, l2, l3] st S V Q else xX E mX4_of 7 [l0, l1, l2, l3] st S V Q := xi_if (show decode cX4_of 4 = .ok (.ifCond .ne 5, 3) by decide +kernel) (by decide) xcb_ne
theorem pX4_of_7 : xX E mX4_of 7 [l0, l1, l2, l3] st S V Q ↔ xX E mX4_of 8 [l0, l1, l2, l3] (.int (-1) :: st) S V Q := xi (show decode cX4_of 7 = .ok (.iconst (-1), 1) by decide +kernel) rfl
theorem pX4_of_8 : xX E mX4_of 8 [l0, l1, l2, l3] [.int x] S V Q ↔ Q (some (.int x)) S V := xi_retI (show decode cX4_of 8 = .ok (.ireturn, 1) by decide +kernel) rfl
theorem pX4_of_9 : xX E mX4_of 9 [some (.ref a), l1, l2, l3] st S V Q ↔ xX E mX4_of 10 [some (.ref a), l1, l2, l3] (.ref a :: st) S V Q := xi (show decode cX4_of 9 = .ok (.aload_n 0, 1) by decide +kernel) rfl
theorem pX4_of_10 (h : xkd S a = 5) : xX E mX4_of 10 [l0, l1, l2, l3] (.ref a :: st) S V Q ↔ xX E mX4_of 13 [l0, l1, l2, l3] (va_rf (xrf S a 0) :: st) S V Q := xi_getR (show decode cX4_of 10 = .ok (.getfield 10, 3) by decide +kernel) xft_4_10 rfl h
theorem pX4_of_13 (h : xkd S a = 3) : xX E mX4_of 13 [l0, l1, l2, l3] (.ref a :: st) S V Q ↔ xX E mX4_of 16 [l0, l1, l2, l3] (va_rf (xrf S a 0) :: st) S V Q := xi_getR (show decode cX4_of 13 = .ok (.getfield 49, 3) by decide +kernel) xft_4_49 rfl h
theorem pX4_of_16 : xX E mX4_of 16 [l0, some (.int x), l2, l3] st S V Q ↔ xX E mX4_of 17 [l0, some (.int x), l2, l3] (.int x :: st) S V Q := xi (show decode cX4_of 16 = .ok (.iload_n 1, 1) by decide +kernel) rfl
theorem pX4_of_17 (h : xkd S a = 10 ∨ xkd S a = 11) (hi : b < xln S a) (hn : xln S a < 2147483648) : xX E mX4_of 17 [l0, l1, l2, l3] (.int (nI b) :: .ref a :: st) S V Q ↔ xX E mX4_of 18 [l0, l1, l2, l3] (va_rf (xrf S a b) :: st) S V Q := xi_aald (show decode cX4_of 17 = .ok (.aaload, 1) by decide +kernel) h hi hn
theorem pX4_of_18 (h : xnl l2 = true) : xX E mX4_of 18 [l0, l1, l2, l3] (.ref a :: st) S V Q ↔ xX E mX4_of 19 [l0, l1, l2, some (.ref a)] st S V Q := xi_st1 (j := 2) (v := .ref a) (show decode cX4_of 18 = .ok (.astore_n 3, 1) by decide +kernel) rfl h rfl rfl
theorem pX4_of_19 : xX E mX4_of 19 [l0, l1, some (.int x), l3] st S V Q ↔ xX E mX4_of 20 [l0, l1, some (.int x), l3] (.int x :: st) S V Q := xi (show decode cX4_of 19 = .ok (.iload_n 2, 1) by decide +kernel) rfl
theorem pX4_of_20_k0 : xX E mX4_of 20 [l0, l1, l2, l3] (.int (nI 0) :: st) S V Q ↔ xX E mX4_of 92 [l0, l1, l2, l3] st S V Q := xi_tab (off := 72) (show decode cX4_of 20 = .ok (.tableswitch 184 0 13 #[72, 77, 82, 87, 92, 108, 113, 118, 127, 136, 156, 163, 170, 177], 72) by decide +kernel) (by decide) (by decide) (by decide)
theorem pX4_of_20_k1 : xX E mX4_of 20 [l0, l1, l2, l3] (.int (nI 1) :: st) S V Q ↔ xX E mX4_of 97 [l0, l1, l2, l3] st S V Q := xi_tab (off := 77) (show decode cX4_of 20 = .ok (.tableswitch 184 0 13 #[72, 77, 82, 87, 92, 108, 113, 118, 127, 136, 156, 163, 170, 177], 72) by decide +kernel) (by decide) (by decide) (by decide)
theorem pX4_of_20_k2 : xX E mX4_of 20 [l0, l1, l2, l3] (.int (nI 2) :: st) S V Q ↔ xX E mX4_of 102 [l0, l1, l2, l3] st S V Q := xi_tab (off := 82) (show decode cX4_of 20 = .ok (.tableswitch 184 0 13 #[72, 77, 82, 87, 92, 108, 113, 118, 127, 136, 156, 163, 170, 177], 72) by decide +kernel) (by decide) (by decide) (by decide)
theorem pX4_of_20_k3 : xX E mX4_of 20 [l0, l1, l2, l3] (.int (nI 3) :: st) S V Q ↔ xX E mX4_of 107 [l0, l1, l2, l3] st S V Q := xi_tab (off := 87) (show decode cX4_of 20 = .ok (.tableswitch 184 0 13 #[72, 77, 82, 87, 92, 108, 113, 118, 127, 136, 156, 163, 170, 177], 72) by decide +kernel) (by decide) (by decide) (by decide)
theorem pX4_of_20_k4 : xX E mX4_of 20 [l0, l1, l2, l3] (.int (nI 4) :: st) S V Q ↔ xX E mX4_of 112 [l0, l1, l2, l3] st S V Q := xi_tab (off := 92) (show decode cX4_of 20 = .ok (.tableswitch 184 0 13 #[72, 77, 82, 87, 92, 108, 113, 118, 127, 136, 156, 163, 170, 177], 72) by decide +kernel) (by decide) (by decide) (by decide)
theorem pX4_of_20_k5 : xX E mX4_of 20 [l0, l1, l2, l3] (.int (nI 5) :: st) S V Q ↔ xX E mX4_of 128 [l0, l1, l2, l3] st S V Q := xi_tab (off := 108) (show decode cX4_of 20 = .ok (.tableswitch 184 0 13 #[72, 77, 82, 87, 92, 108, 113, 118, 127, 136, 156, 163, 170, 177], 72) by decide +kernel) (by decide) (by decide) (by decide)
theorem pX4_of_20_k6 : xX E mX4_of 20 [l0, l1, l2, l3] (.int (nI 6) :: st) S V Q ↔ xX E mX4_of 133 [l0, l1, l2, l3] st S V Q := xi_tab (off := 113) (show decode cX4_of 20 = .ok (.tableswitch 184 0 13 #[72, 77, 82, 87, 92, 108, 113, 118, 127, 136, 156, 163, 170, 177], 72) by decide +kernel) (by decide) (by decide) (by decide)
theorem pX4_of_20_k7 : xX E mX4_of 20 [l0, l1, l2, l3] (.int (nI 7) :: st) S V Q ↔ xX E mX4_of 138 [l0, l1, l2, l3] st S V Q := xi_tab (off := 118) (show decode cX4_of 20 = .ok (.tableswitch 184 0 13 #[72, 77, 82, 87, 92, 108, 113, 118, 127, 136, 156, 163, 170, 177], 72) by decide +kernel) (by decide) (by decide) (by decide)
theorem pX4_of_20_k8 : xX E mX4_of 20 [l0, l1, l2, l3] (.int (nI 8) :: st) S V Q ↔ xX E mX4_of 147 [l0, l1, l2, l3] st S V Q := xi_tab (off := 127) (show decode cX4_of 20 = .ok (.tableswitch 184 0 13 #[72, 77, 82, 87, 92, 108, 113, 118, 127, 136, 156, 163, 170, 177], 72) by decide +kernel) (by decide) (by decide) (by decide)
theorem pX4_of_20_k9 : xX E mX4_of 20 [l0, l1, l2, l3] (.int (nI 9) :: st) S V Q ↔ xX E mX4_of 156 [l0, l1, l2, l3] st S V Q := xi_tab (off := 136) (show decode cX4_of 20 = .ok (.tableswitch 184 0 13 #[72, 77, 82, 87, 92, 108, 113, 118, 127, 136, 156, 163, 170, 177], 72) by decide +kernel) (by decide) (by decide) (by decide)
theorem pX4_of_20_k10 : xX E mX4_of 20 [l0, l1, l2, l3] (.int (nI 10) :: st) S V Q ↔ xX E mX4_of 176 [l0, l1, l2, l3] st S V Q := xi_tab (off := 156) (show decode cX4_of 20 = .ok (.tableswitch 184 0 13 #[72, 77, 82, 87, 92, 108, 113, 118, 127, 136, 156, 163, 170, 177], 72) by decide +kernel) (by decide) (by decide) (by decide)
theorem pX4_of_20_k11 : xX E mX4_of 20 [l0, l1, l2, l3] (.int (nI 11) :: st) S V Q ↔ xX E mX4_of 183 [l0, l1, l2, l3] st S V Q := xi_tab (off := 163) (show decode cX4_of 20 = .ok (.tableswitch 184 0 13 #[72, 77, 82, 87, 92, 108, 113, 118, 127, 136, 156, 163, 170, 177], 72) by decide +kernel) (by decide) (by decide) (by decide)
theorem pX4_of_20_k12 : xX E mX4_of 20 [l0, l1, l2, l3] (.int (nI 12) :: st) S V Q ↔ xX E mX4_of 190 [l0, l1, l2, l3] st S V Q := xi_tab (off := 170) (show decode cX4_of 20 = .ok (.tableswitch 184 0 13 #[72, 77, 82, 87, 92, 108, 113, 118, 127, 136, 156, 163, 170, 177], 72) by decide +kernel) (by decide) (by decide) (by decide)
theorem pX4_of_20_k13 : xX E mX4_of 20 [l0, l1, l2, l3] (.int (nI 13) :: st) S V Q ↔ xX E mX4_of 197 [l0, l1, l2, l3] st S V Q := xi_tab (off := 177) (show decode cX4_of 20 = .ok (.tableswitch 184 0 13 #[72, 77, 82, 87, 92, 108, 113, 118, 127, 136, 156, 163, 170, 177], 72) by decide +kernel) (by decide) (by decide) (by decide)
theorem pX4_of_20_d (h : x.toInt < 0 ∨ 13 < x.toInt) : xX E mX4_of 20 [l0, l1, l2, l3] (.int x :: st) S V Q ↔ xX E mX4_of 204 [l0, l1, l2, l3] st S V Q := xi_tab (off := 184) (show decode cX4_of 20 = .ok (.tableswitch 184 0 13 #[72, 77, 82, 87, 92, 108, 113, 118, 127, 136, 156, 163, 170, 177], 72) by decide +kernel) (if_pos h) (by decide) (by decide)
theorem pX4_of_92 : xX E mX4_of 92 [l0, l1, l2, some (.ref a)] st S V Q ↔ xX E mX4_of 93 [l0, l1, l2, some (.ref a)] (.ref a :: st) S V Q := xi (show decode cX4_of 92 = .ok (.aload_n 3, 1) by decide +kernel) rfl
theorem pX4_of_93 (h : xkd S a = 1) : xX E mX4_of 93 [l0, l1, l2, l3] (.ref a :: st) S V Q ↔ xX E mX4_of 96 [l0, l1, l2, l3] (.int (V a 4) :: st) S V Q := xi_getI (show decode cX4_of 93 = .ok (.getfield 53, 3) by decide +kernel) xft_4_53 rfl h
theorem pX4_of_96 : xX E mX4_of 96 [l0, l1, l2, l3] [.int x] S V Q ↔ Q (some (.int x)) S V := xi_retI (show decode cX4_of 96 = .ok (.ireturn, 1) by decide +kernel) rfl
theorem pX4_of_97 : xX E mX4_of 97 [l0, l1, l2, some (.ref a)] st S V Q ↔ xX E mX4_of 98 [l0, l1, l2, some (.ref a)] (.ref a :: st) S V Q := xi (show decode cX4_of 97 = .ok (.aload_n 3, 1) by decide +kernel) rfl
theorem pX4_of_98 (h : xkd S a = 1) : xX E mX4_of 98 [l0, l1, l2, l3] (.ref a :: st) S V Q ↔ xX E mX4_of 101 [l0, l1, l2, l3] (.int (V a 6) :: st) S V Q := xi_getI (show decode cX4_of 98 = .ok (.getfield 116, 3) by decide +kernel) xft_4_116 rfl h
theorem pX4_of_101 : xX E mX4_of 101 [l0, l1, l2, l3] [.int x] S V Q ↔ Q (some (.int x)) S V := xi_retI (show decode cX4_of 101 = .ok (.ireturn, 1) by decide +kernel) rfl
theorem pX4_of_102 : xX E mX4_of 102 [l0, l1, l2, some (.ref a)] st S V Q ↔ xX E mX4_of 103 [l0, l1, l2, some (.ref a)] (.ref a :: st) S V Q := xi (show decode cX4_of 102 = .ok (.aload_n 3, 1) by decide +kernel) rfl
theorem pX4_of_103 (h : xkd S a = 1) : xX E mX4_of 103 [l0, l1, l2, l3] (.ref a :: st) S V Q ↔ xX E mX4_of 106 [l0, l1, l2, l3] (.int (V a 7) :: st) S V Q := xi_getI (show decode cX4_of 103 = .ok (.getfield 119, 3) by decide +kernel) xft_4_119 rfl h
theorem pX4_of_106 : xX E mX4_of 106 [l0, l1, l2, l3] [.int x] S V Q ↔ Q (some (.int x)) S V := xi_retI (show decode cX4_of 106 = .ok (.ireturn, 1) by decide +kernel) rfl
theorem pX4_of_107 : xX E mX4_of 107 [l0, l1, l2, some (.ref a)] st S V Q ↔ xX E mX4_of 108 [l0, l1, l2, some (.ref a)] (.ref a :: st) S V Q := xi (show decode cX4_of 107 = .ok (.aload_n 3, 1) by decide +kernel) rfl
theorem pX4_of_108 (h : xkd S a = 1) : xX E mX4_of 108 [l0, l1, l2, l3] (.ref a :: st) S V Q ↔ xX E mX4_of 111 [l0, l1, l2, l3] (.int (V a 8) :: st) S V Q := xi_getI (show decode cX4_of 108 = .ok (.getfield 84, 3) by decide +kernel) xft_4_84 rfl h
theorem pX4_of_111 : xX E mX4_of 111 [l0, l1, l2, l3] [.int x] S V Q ↔ Q (some (.int x)) S V := xi_retI (show decode cX4_of 111 = .ok (.ireturn, 1) by decide +kernel) rfl
theorem pX4_of_112 : xX E mX4_of 112 [some (.ref a), l1, l2, l3] st S V Q ↔ xX E mX4_of 113 [some (.ref a), l1, l2, l3] (.ref a :: st) S V Q := xi (show decode cX4_of 112 = .ok (.aload_n 0, 1) by decide +kernel) rfl
theorem pX4_of_113 (h : xkd S a = 5) : xX E mX4_of 113 [l0, l1, l2, l3] (.ref a :: st) S V Q ↔ xX E mX4_of 116 [l0, l1, l2, l3] (va_rf (xrf S a 0) :: st) S V Q := xi_getR (show decode cX4_of 113 = .ok (.getfield 10, 3) by decide +kernel) xft_4_10 rfl h
theorem pX4_of_116 : xX E mX4_of 116 [l0, some (.int x), l2, l3] st S V Q ↔ xX E mX4_of 117 [l0, some (.int x), l2, l3] (.int x :: st) S V Q := xi (show decode cX4_of 116 = .ok (.iload_n 1, 1) by decide +kernel) rfl
theorem pX4_of_117 : xX E mX4_of 117 [some (.ref a), l1, l2, l3] st S V Q ↔ xX E mX4_of 118 [some (.ref a), l1, l2, l3] (.ref a :: st) S V Q := xi (show decode cX4_of 117 = .ok (.aload_n 0, 1) by decide +kernel) rfl
theorem pX4_of_118 (h : xkd S a = 5) : xX E mX4_of 118 [l0, l1, l2, l3] (.ref a :: st) S V Q ↔ xX E mX4_of 121 [l0, l1, l2, l3] (va_rf (xrf S a 0) :: st) S V Q := xi_getR (show decode cX4_of 118 = .ok (.getfield 10, 3) by decide +kernel) xft_4_10 rfl h
theorem pX4_of_121  (h : xkd S a = 3) (hc : xcat st ≤ 8) : xX E mX4_of 121 [l0, l1, l2, l3] (.ref a :: st) S V Q ↔ xC E mX2_findAllWaits [.ref a] S V (fun v S V => xX E mX4_of 124 [l0, l1, l2, l3] (v.toList ++ st) S V Q) := xi_callV (as := []) (show decode cX4_of 121 = .ok (.invokevirtual 122, 3) by decide +kernel) xct_4_122 rfl rfl (by decide) (Nat.le_of_ble_eq_true rfl) rfl h hc
theorem pX4_of_124 {x0 : Int32} {a1 : Nat} (h : xkd S a = 3) (hc : xcat st ≤ 8) : xX E mX4_of 124 [l0, l1, l2, l3] (.ref a1 :: .int x0 :: .ref a :: st) S V Q ↔ xC E mX2_lentPriority [.ref a, .int x0, .ref a1] S V (fun v S V => xX E mX4_of 127 [l0, l1, l2, l3] (v.toList ++ st) S V Q) := xi_callV (as := [.int x0, .ref a1]) (show decode cX4_of 124 = .ok (.invokevirtual 126, 3) by decide +kernel) xct_4_126 rfl rfl (by decide) (Nat.le_of_ble_eq_true rfl) rfl h hc
theorem pX4_of_127 : xX E mX4_of 127 [l0, l1, l2, l3] [.int x] S V Q ↔ Q (some (.int x)) S V := xi_retI (show decode cX4_of 127 = .ok (.ireturn, 1) by decide +kernel) rfl
theorem pX4_of_128 : xX E mX4_of 128 [l0, l1, l2, some (.ref a)] st S V Q ↔ xX E mX4_of 129 [l0, l1, l2, some (.ref a)] (.ref a :: st) S V Q := xi (show decode cX4_of 128 = .ok (.aload_n 3, 1) by decide +kernel) rfl
theorem pX4_of_129 (h : xkd S a = 1) : xX E mX4_of 129 [l0, l1, l2, l3] (.ref a :: st) S V Q ↔ xX E mX4_of 132 [l0, l1, l2, l3] (.int (V a 9) :: st) S V Q := xi_getI (show decode cX4_of 129 = .ok (.getfield 87, 3) by decide +kernel) xft_4_87 rfl h
theorem pX4_of_132 : xX E mX4_of 132 [l0, l1, l2, l3] [.int x] S V Q ↔ Q (some (.int x)) S V := xi_retI (show decode cX4_of 132 = .ok (.ireturn, 1) by decide +kernel) rfl
theorem pX4_of_133 : xX E mX4_of 133 [l0, l1, l2, some (.ref a)] st S V Q ↔ xX E mX4_of 134 [l0, l1, l2, some (.ref a)] (.ref a :: st) S V Q := xi (show decode cX4_of 133 = .ok (.aload_n 3, 1) by decide +kernel) rfl
theorem pX4_of_134 (h : xkd S a = 1) : xX E mX4_of 134 [l0, l1, l2, l3] (.ref a :: st) S V Q ↔ xX E mX4_of 137 [l0, l1, l2, l3] (.int (V a 10) :: st) S V Q := xi_getI (show decode cX4_of 134 = .ok (.getfield 130, 3) by decide +kernel) xft_4_130 rfl h
theorem pX4_of_137 : xX E mX4_of 137 [l0, l1, l2, l3] [.int x] S V Q ↔ Q (some (.int x)) S V := xi_retI (show decode cX4_of 137 = .ok (.ireturn, 1) by decide +kernel) rfl
theorem pX4_of_138 : xX E mX4_of 138 [some (.ref a), l1, l2, l3] st S V Q ↔ xX E mX4_of 139 [some (.ref a), l1, l2, l3] (.ref a :: st) S V Q := xi (show decode cX4_of 138 = .ok (.aload_n 0, 1) by decide +kernel) rfl
theorem pX4_of_139 (h : xkd S a = 5) : xX E mX4_of 139 [l0, l1, l2, l3] (.ref a :: st) S V Q ↔ xX E mX4_of 142 [l0, l1, l2, l3] (va_rf (xrf S a 0) :: st) S V Q := xi_getR (show decode cX4_of 139 = .ok (.getfield 10, 3) by decide +kernel) xft_4_10 rfl h
theorem pX4_of_142 : xX E mX4_of 142 [l0, some (.int x), l2, l3] st S V Q ↔ xX E mX4_of 143 [l0, some (.int x), l2, l3] (.int x :: st) S V Q := xi (show decode cX4_of 142 = .ok (.iload_n 1, 1) by decide +kernel) rfl
theorem pX4_of_143 {x0 : Int32} (h : xkd S a = 3) (hc : xcat st ≤ 8) : xX E mX4_of 143 [l0, l1, l2, l3] (.int x0 :: .ref a :: st) S V Q ↔ xC E mX2_stateOf [.ref a, .int x0] S V (fun v S V => xX E mX4_of 146 [l0, l1, l2, l3] (v.toList ++ st) S V Q) := xi_callV (as := [.int x0]) (show decode cX4_of 143 = .ok (.invokevirtual 133, 3) by decide +kernel) xct_4_133 rfl rfl (by decide) (Nat.le_of_ble_eq_true rfl) rfl h hc
theorem pX4_of_146 : xX E mX4_of 146 [l0, l1, l2, l3] [.int x] S V Q ↔ Q (some (.int x)) S V := xi_retI (show decode cX4_of 146 = .ok (.ireturn, 1) by decide +kernel) rfl
theorem pX4_of_147 : xX E mX4_of 147 [some (.ref a), l1, l2, l3] st S V Q ↔ xX E mX4_of 148 [some (.ref a), l1, l2, l3] (.ref a :: st) S V Q := xi (show decode cX4_of 147 = .ok (.aload_n 0, 1) by decide +kernel) rfl
theorem pX4_of_148 (h : xkd S a = 5) : xX E mX4_of 148 [l0, l1, l2, l3] (.ref a :: st) S V Q ↔ xX E mX4_of 151 [l0, l1, l2, l3] (va_rf (xrf S a 0) :: st) S V Q := xi_getR (show decode cX4_of 148 = .ok (.getfield 10, 3) by decide +kernel) xft_4_10 rfl h
theorem pX4_of_151 : xX E mX4_of 151 [l0, some (.int x), l2, l3] st S V Q ↔ xX E mX4_of 152 [l0, some (.int x), l2, l3] (.int x :: st) S V Q := xi (show decode cX4_of 151 = .ok (.iload_n 1, 1) by decide +kernel) rfl
theorem pX4_of_152 {x0 : Int32} (h : xkd S a = 3) (hc : xcat st ≤ 8) : xX E mX4_of 152 [l0, l1, l2, l3] (.int x0 :: .ref a :: st) S V Q ↔ xC E mX2_waitsOf [.ref a, .int x0] S V (fun v S V => xX E mX4_of 155 [l0, l1, l2, l3] (v.toList ++ st) S V Q) := xi_callV (as := [.int x0]) (show decode cX4_of 152 = .ok (.invokevirtual 136, 3) by decide +kernel) xct_4_136 rfl rfl (by decide) (Nat.le_of_ble_eq_true rfl) rfl h hc
theorem pX4_of_155 : xX E mX4_of 155 [l0, l1, l2, l3] [.int x] S V Q ↔ Q (some (.int x)) S V := xi_retI (show decode cX4_of 155 = .ok (.ireturn, 1) by decide +kernel) rfl
theorem pX4_of_156 : xX E mX4_of 156 [some (.ref a), l1, l2, l3] st S V Q ↔ xX E mX4_of 157 [some (.ref a), l1, l2, l3] (.ref a :: st) S V Q := xi (show decode cX4_of 156 = .ok (.aload_n 0, 1) by decide +kernel) rfl
theorem pX4_of_157 (h : xkd S a = 5) : xX E mX4_of 157 [l0, l1, l2, l3] (.ref a :: st) S V Q ↔ xX E mX4_of 160 [l0, l1, l2, l3] (va_rf (xrf S a 0) :: st) S V Q := xi_getR (show decode cX4_of 157 = .ok (.getfield 10, 3) by decide +kernel) xft_4_10 rfl h
theorem pX4_of_160  (h : xkd S a = 3) (hc : xcat st ≤ 8) : xX E mX4_of 160 [l0, l1, l2, l3] (.ref a :: st) S V Q ↔ xC E mX2_ringSet [.ref a] S V (fun v S V => xX E mX4_of 163 [l0, l1, l2, l3] (v.toList ++ st) S V Q) := xi_callV (as := []) (show decode cX4_of 160 = .ok (.invokevirtual 139, 3) by decide +kernel) xct_4_139 rfl rfl (by decide) (Nat.le_of_ble_eq_true rfl) rfl h hc
theorem pX4_of_163 : xX E mX4_of 163 [l0, some (.int x), l2, l3] st S V Q ↔ xX E mX4_of 164 [l0, some (.int x), l2, l3] (.int x :: st) S V Q := xi (show decode cX4_of 163 = .ok (.iload_n 1, 1) by decide +kernel) rfl
theorem pX4_of_164 {x0 : Int32} {x1 : Int32} (hc : xcat st ≤ 8) : xX E mX4_of 164 [l0, l1, l2, l3] (.int x1 :: .int x0 :: st) S V Q ↔ xC E mX4_has [.int x0, .int x1] S V (fun v S V => xX E mX4_of 167 [l0, l1, l2, l3] (v.toList ++ st) S V Q) := xi_callS (as := [.int x0, .int x1]) (show decode cX4_of 164 = .ok (.invokestatic 142, 3) by decide +kernel) xct_4_142 (by decide) rfl rfl (by decide) (Nat.le_of_ble_eq_true rfl) hc
theorem pX4_of_167 : xX E mX4_of 167 [l0, l1, l2, l3] (.int x :: st) S V Q ↔ if x = nI 0 then xX E mX4_of 174 [l0, l1, l2, l3] st S V Q else xX E mX4_of 170 [l0, l1, l2, l3] st S V Q := xi_if (show decode cX4_of 167 = .ok (.ifCond .eq 7, 3) by decide +kernel) (by decide) xcb_eq
theorem pX4_of_170 : xX E mX4_of 170 [l0, l1, l2, l3] st S V Q ↔ xX E mX4_of 171 [l0, l1, l2, l3] (.int (nI 1) :: st) S V Q := xi (show decode cX4_of 170 = .ok (.iconst 1, 1) by decide +kernel) rfl
theorem pX4_of_171 : xX E mX4_of 171 [l0, l1, l2, l3] st S V Q ↔ xX E mX4_of 175 [l0, l1, l2, l3] st S V Q := xi_goto (show decode cX4_of 171 = .ok (.goto 4, 3) by decide +kernel) (by decide)
theorem pX4_of_174 : xX E mX4_of 174 [l0, l1, l2, l3] st S V Q ↔ xX E mX4_of 175 [l0, l1, l2, l3] (.int (nI 0) :: st) S V Q := xi (show decode cX4_of 174 = .ok (.iconst 0, 1) by decide +kernel) rfl
theorem pX4_of_175 : xX E mX4_of 175 [l0, l1, l2, l3] [.int x] S V Q ↔ Q (some (.int x)) S V := xi_retI (show decode cX4_of 175 = .ok (.ireturn, 1) by decide +kernel) rfl
theorem pX4_of_176 : xX E mX4_of 176 [l0, l1, l2, some (.ref a)] st S V Q ↔ xX E mX4_of 177 [l0, l1, l2, some (.ref a)] (.ref a :: st) S V Q := xi (show decode cX4_of 176 = .ok (.aload_n 3, 1) by decide +kernel) rfl
theorem pX4_of_177 (h : xkd S a = 1) : xX E mX4_of 177 [l0, l1, l2, l3] (.ref a :: st) S V Q ↔ xX E mX4_of 180 [l0, l1, l2, l3] (va_rf (xrf S a 3) :: st) S V Q := xi_getR (show decode cX4_of 177 = .ok (.getfield 145, 3) by decide +kernel) xft_4_145 rfl h
theorem pX4_of_180 : xX E mX4_of 180 [l0, l1, l2, l3] st S V Q ↔ xX E mX4_of 181 [l0, l1, l2, l3] (.int (nI 0) :: st) S V Q := xi (show decode cX4_of 180 = .ok (.iconst 0, 1) by decide +kernel) rfl
theorem pX4_of_181 (h : xkd S a = 7 ∨ xkd S a = 14) (hi : b < xln S a) (hn : xln S a < 2147483648) : xX E mX4_of 181 [l0, l1, l2, l3] (.int (nI b) :: .ref a :: st) S V Q ↔ xX E mX4_of 182 [l0, l1, l2, l3] (.int (V a b) :: st) S V Q := xi_iald (show decode cX4_of 181 = .ok (.iaload, 1) by decide +kernel) h hi hn
theorem pX4_of_182 : xX E mX4_of 182 [l0, l1, l2, l3] [.int x] S V Q ↔ Q (some (.int x)) S V := xi_retI (show decode cX4_of 182 = .ok (.ireturn, 1) by decide +kernel) rfl
theorem pX4_of_183 : xX E mX4_of 183 [l0, l1, l2, some (.ref a)] st S V Q ↔ xX E mX4_of 184 [l0, l1, l2, some (.ref a)] (.ref a :: st) S V Q := xi (show decode cX4_of 183 = .ok (.aload_n 3, 1) by decide +kernel) rfl
theorem pX4_of_184 (h : xkd S a = 1) : xX E mX4_of 184 [l0, l1, l2, l3] (.ref a :: st) S V Q ↔ xX E mX4_of 187 [l0, l1, l2, l3] (va_rf (xrf S a 3) :: st) S V Q := xi_getR (show decode cX4_of 184 = .ok (.getfield 145, 3) by decide +kernel) xft_4_145 rfl h
theorem pX4_of_187 : xX E mX4_of 187 [l0, l1, l2, l3] st S V Q ↔ xX E mX4_of 188 [l0, l1, l2, l3] (.int (nI 1) :: st) S V Q := xi (show decode cX4_of 187 = .ok (.iconst 1, 1) by decide +kernel) rfl
theorem pX4_of_188 (h : xkd S a = 7 ∨ xkd S a = 14) (hi : b < xln S a) (hn : xln S a < 2147483648) : xX E mX4_of 188 [l0, l1, l2, l3] (.int (nI b) :: .ref a :: st) S V Q ↔ xX E mX4_of 189 [l0, l1, l2, l3] (.int (V a b) :: st) S V Q := xi_iald (show decode cX4_of 188 = .ok (.iaload, 1) by decide +kernel) h hi hn
theorem pX4_of_189 : xX E mX4_of 189 [l0, l1, l2, l3] [.int x] S V Q ↔ Q (some (.int x)) S V := xi_retI (show decode cX4_of 189 = .ok (.ireturn, 1) by decide +kernel) rfl
theorem pX4_of_190 : xX E mX4_of 190 [l0, l1, l2, some (.ref a)] st S V Q ↔ xX E mX4_of 191 [l0, l1, l2, some (.ref a)] (.ref a :: st) S V Q := xi (show decode cX4_of 190 = .ok (.aload_n 3, 1) by decide +kernel) rfl
theorem pX4_of_191 (h : xkd S a = 1) : xX E mX4_of 191 [l0, l1, l2, l3] (.ref a :: st) S V Q ↔ xX E mX4_of 194 [l0, l1, l2, l3] (va_rf (xrf S a 3) :: st) S V Q := xi_getR (show decode cX4_of 191 = .ok (.getfield 145, 3) by decide +kernel) xft_4_145 rfl h
theorem pX4_of_194 : xX E mX4_of 194 [l0, l1, l2, l3] st S V Q ↔ xX E mX4_of 195 [l0, l1, l2, l3] (.int (nI 2) :: st) S V Q := xi (show decode cX4_of 194 = .ok (.iconst 2, 1) by decide +kernel) rfl
theorem pX4_of_195 (h : xkd S a = 7 ∨ xkd S a = 14) (hi : b < xln S a) (hn : xln S a < 2147483648) : xX E mX4_of 195 [l0, l1, l2, l3] (.int (nI b) :: .ref a :: st) S V Q ↔ xX E mX4_of 196 [l0, l1, l2, l3] (.int (V a b) :: st) S V Q := xi_iald (show decode cX4_of 195 = .ok (.iaload, 1) by decide +kernel) h hi hn
theorem pX4_of_196 : xX E mX4_of 196 [l0, l1, l2, l3] [.int x] S V Q ↔ Q (some (.int x)) S V := xi_retI (show decode cX4_of 196 = .ok (.ireturn, 1) by decide +kernel) rfl
theorem pX4_of_197 : xX E mX4_of 197 [l0, l1, l2, some (.ref a)] st S V Q ↔ xX E mX4_of 198 [l0, l1, l2, some (.ref a)] (.ref a :: st) S V Q := xi (show decode cX4_of 197 = .ok (.aload_n 3, 1) by decide +kernel) rfl
theorem pX4_of_198 (h : xkd S a = 1) : xX E mX4_of 198 [l0, l1, l2, l3] (.ref a :: st) S V Q ↔ xX E mX4_of 201 [l0, l1, l2, l3] (va_rf (xrf S a 3) :: st) S V Q := xi_getR (show decode cX4_of 198 = .ok (.getfield 145, 3) by decide +kernel) xft_4_145 rfl h
theorem pX4_of_201 : xX E mX4_of 201 [l0, l1, l2, l3] st S V Q ↔ xX E mX4_of 202 [l0, l1, l2, l3] (.int (nI 3) :: st) S V Q := xi (show decode cX4_of 201 = .ok (.iconst 3, 1) by decide +kernel) rfl
theorem pX4_of_202 (h : xkd S a = 7 ∨ xkd S a = 14) (hi : b < xln S a) (hn : xln S a < 2147483648) : xX E mX4_of 202 [l0, l1, l2, l3] (.int (nI b) :: .ref a :: st) S V Q ↔ xX E mX4_of 203 [l0, l1, l2, l3] (.int (V a b) :: st) S V Q := xi_iald (show decode cX4_of 202 = .ok (.iaload, 1) by decide +kernel) h hi hn
theorem pX4_of_203 : xX E mX4_of 203 [l0, l1, l2, l3] [.int x] S V Q ↔ Q (some (.int x)) S V := xi_retI (show decode cX4_of 203 = .ok (.ireturn, 1) by decide +kernel) rfl
theorem pX4_of_204 : xX E mX4_of 204 [l0, l1, l2, l3] st S V Q ↔ xX E mX4_of 206 [l0, l1, l2, l3] (.int (-2) :: st) S V Q := xi (show decode cX4_of 204 = .ok (.bipush (-2), 2) by decide +kernel) rfl
theorem pX4_of_206 : xX E mX4_of 206 [l0, l1, l2, l3] [.int x] S V Q ↔ Q (some (.int x)) S V := xi_retI (show decode cX4_of 206 = .ok (.ireturn, 1) by decide +kernel) rfl
-- TurnSlots.post(II)I
theorem pX4_post_0 : xX E mX4_post 0 [l0, some (.int x), l2, l3] st S V Q ↔ xX E mX4_post 1 [l0, some (.int x), l2, l3] (.int x :: st) S V Q := xi (show decode cX4_post 0 = .ok (.iload_n 1, 1) by decide +kernel) rfl
theorem pX4_post_1 {x0 : Int32} (hc : xcat st ≤ 8) : xX E mX4_post 1 [l0, l1, l2, l3] (.int x0 :: st) S V Q ↔ xC E mX4_isContext [.int x0] S V (fun v S V => xX E mX4_post 4 [l0, l1, l2, l3] (v.toList ++ st) S V Q) := xi_callS (as := [.int x0]) (show decode cX4_post 1 = .ok (.invokestatic 41, 3) by decide +kernel) xct_4_41 (by decide) rfl rfl (by decide) (Nat.le_of_ble_eq_true rfl) hc
theorem pX4_post_4 : xX E mX4_post 4 [l0, l1, l2, l3] (.int x :: st) S V Q ↔ if ¬ x = nI 0 then xX E mX4_post 9 [l0, l1, l2, l3] st S V Q else xX E mX4_post 7 [l0, l1, l2, l3] st S V Q := xi_if (show decode cX4_post 4 = .ok (.ifCond .ne 5, 3) by decide +kernel) (by decide) xcb_ne
theorem pX4_post_7 : xX E mX4_post 7 [l0, l1, l2, l3] st S V Q ↔ xX E mX4_post 8 [l0, l1, l2, l3] (.int (-1) :: st) S V Q := xi (show decode cX4_post 7 = .ok (.iconst (-1), 1) by decide +kernel) rfl
theorem pX4_post_8 : xX E mX4_post 8 [l0, l1, l2, l3] [.int x] S V Q ↔ Q (some (.int x)) S V := xi_retI (show decode cX4_post 8 = .ok (.ireturn, 1) by decide +kernel) rfl
theorem pX4_post_9 : xX E mX4_post 9 [l0, l1, some (.int x), l3] st S V Q ↔ xX E mX4_post 10 [l0, l1, some (.int x), l3] (.int x :: st) S V Q := xi (show decode cX4_post 9 = .ok (.iload_n 2, 1) by decide +kernel) rfl
theorem pX4_post_10 : xX E mX4_post 10 [l0, l1, l2, l3] (.int x :: st) S V Q ↔ if x < nI 0 then xX E mX4_post 20 [l0, l1, l2, l3] st S V Q else xX E mX4_post 13 [l0, l1, l2, l3] st S V Q := xi_if (show decode cX4_post 10 = .ok (.ifCond .lt 10, 3) by decide +kernel) (by decide) xcb_lt
theorem pX4_post_13 : xX E mX4_post 13 [l0, l1, some (.int x), l3] st S V Q ↔ xX E mX4_post 14 [l0, l1, some (.int x), l3] (.int x :: st) S V Q := xi (show decode cX4_post 13 = .ok (.iload_n 2, 1) by decide +kernel) rfl
theorem pX4_post_14 : xX E mX4_post 14 [l0, l1, l2, l3] st S V Q ↔ xX E mX4_post 17 [l0, l1, l2, l3] (.int (nI 1000) :: st) S V Q := xi (show decode cX4_post 14 = .ok (.sipush 1000, 3) by decide +kernel) rfl
theorem pX4_post_17 : xX E mX4_post 17 [l0, l1, l2, l3] (.int y :: .int x :: st) S V Q ↔ if x < y then xX E mX4_post 23 [l0, l1, l2, l3] st S V Q else xX E mX4_post 20 [l0, l1, l2, l3] st S V Q := xi_icmp (show decode cX4_post 17 = .ok (.if_icmp .lt 6, 3) by decide +kernel) (by decide) xcb_lt
theorem pX4_post_20 : xX E mX4_post 20 [l0, l1, l2, l3] st S V Q ↔ xX E mX4_post 22 [l0, l1, l2, l3] (.int (-2) :: st) S V Q := xi (show decode cX4_post 20 = .ok (.bipush (-2), 2) by decide +kernel) rfl
theorem pX4_post_22 : xX E mX4_post 22 [l0, l1, l2, l3] [.int x] S V Q ↔ Q (some (.int x)) S V := xi_retI (show decode cX4_post 22 = .ok (.ireturn, 1) by decide +kernel) rfl
theorem pX4_post_23 : xX E mX4_post 23 [some (.ref a), l1, l2, l3] st S V Q ↔ xX E mX4_post 24 [some (.ref a), l1, l2, l3] (.ref a :: st) S V Q := xi (show decode cX4_post 23 = .ok (.aload_n 0, 1) by decide +kernel) rfl
theorem pX4_post_24 (h : xkd S a = 5) : xX E mX4_post 24 [l0, l1, l2, l3] (.ref a :: st) S V Q ↔ xX E mX4_post 27 [l0, l1, l2, l3] (va_rf (xrf S a 0) :: st) S V Q := xi_getR (show decode cX4_post 24 = .ok (.getfield 10, 3) by decide +kernel) xft_4_10 rfl h
theorem pX4_post_27 (h : xkd S a = 3) : xX E mX4_post 27 [l0, l1, l2, l3] (.ref a :: st) S V Q ↔ xX E mX4_post 30 [l0, l1, l2, l3] (va_rf (xrf S a 0) :: st) S V Q := xi_getR (show decode cX4_post 27 = .ok (.getfield 49, 3) by decide +kernel) xft_4_49 rfl h
theorem pX4_post_30 : xX E mX4_post 30 [l0, some (.int x), l2, l3] st S V Q ↔ xX E mX4_post 31 [l0, some (.int x), l2, l3] (.int x :: st) S V Q := xi (show decode cX4_post 30 = .ok (.iload_n 1, 1) by decide +kernel) rfl
theorem pX4_post_31 (h : xkd S a = 10 ∨ xkd S a = 11) (hi : b < xln S a) (hn : xln S a < 2147483648) : xX E mX4_post 31 [l0, l1, l2, l3] (.int (nI b) :: .ref a :: st) S V Q ↔ xX E mX4_post 32 [l0, l1, l2, l3] (va_rf (xrf S a b) :: st) S V Q := xi_aald (show decode cX4_post 31 = .ok (.aaload, 1) by decide +kernel) h hi hn
theorem pX4_post_32 (h : xnl l2 = true) : xX E mX4_post 32 [l0, l1, l2, l3] (.ref a :: st) S V Q ↔ xX E mX4_post 33 [l0, l1, l2, some (.ref a)] st S V Q := xi_st1 (j := 2) (v := .ref a) (show decode cX4_post 32 = .ok (.astore_n 3, 1) by decide +kernel) rfl h rfl rfl
theorem pX4_post_33 : xX E mX4_post 33 [l0, l1, l2, some (.ref a)] st S V Q ↔ xX E mX4_post 34 [l0, l1, l2, some (.ref a)] (.ref a :: st) S V Q := xi (show decode cX4_post 33 = .ok (.aload_n 3, 1) by decide +kernel) rfl
theorem pX4_post_34 (h : xkd S a = 1) : xX E mX4_post 34 [l0, l1, l2, l3] (.ref a :: st) S V Q ↔ xX E mX4_post 37 [l0, l1, l2, l3] (.int (V a 9) :: st) S V Q := xi_getI (show decode cX4_post 34 = .ok (.getfield 87, 3) by decide +kernel) xft_4_87 rfl h
theorem pX4_post_37 : xX E mX4_post 37 [l0, l1, l2, l3] st S V Q ↔ xX E mX4_post 38 [l0, l1, l2, l3] (.int (nI 4) :: st) S V Q := xi (show decode cX4_post 37 = .ok (.iconst 4, 1) by decide +kernel) rfl
theorem pX4_post_38 : xX E mX4_post 38 [l0, l1, l2, l3] (.int y :: .int x :: st) S V Q ↔ if x < y then xX E mX4_post 44 [l0, l1, l2, l3] st S V Q else xX E mX4_post 41 [l0, l1, l2, l3] st S V Q := xi_icmp (show decode cX4_post 38 = .ok (.if_icmp .lt 6, 3) by decide +kernel) (by decide) xcb_lt
theorem pX4_post_41 : xX E mX4_post 41 [l0, l1, l2, l3] st S V Q ↔ xX E mX4_post 43 [l0, l1, l2, l3] (.int (-4) :: st) S V Q := xi (show decode cX4_post 41 = .ok (.bipush (-4), 2) by decide +kernel) rfl
theorem pX4_post_43 : xX E mX4_post 43 [l0, l1, l2, l3] [.int x] S V Q ↔ Q (some (.int x)) S V := xi_retI (show decode cX4_post 43 = .ok (.ireturn, 1) by decide +kernel) rfl
theorem pX4_post_44 : xX E mX4_post 44 [some (.ref a), l1, l2, l3] st S V Q ↔ xX E mX4_post 45 [some (.ref a), l1, l2, l3] (.ref a :: st) S V Q := xi (show decode cX4_post 44 = .ok (.aload_n 0, 1) by decide +kernel) rfl
theorem pX4_post_45 (h : xkd S a = 5) : xX E mX4_post 45 [l0, l1, l2, l3] (.ref a :: st) S V Q ↔ xX E mX4_post 48 [l0, l1, l2, l3] (va_rf (xrf S a 2) :: st) S V Q := xi_getR (show decode cX4_post 45 = .ok (.getfield 22, 3) by decide +kernel) xft_4_22 rfl h
theorem pX4_post_48 : xX E mX4_post 48 [some (.ref a), l1, l2, l3] st S V Q ↔ xX E mX4_post 49 [some (.ref a), l1, l2, l3] (.ref a :: st) S V Q := xi (show decode cX4_post 48 = .ok (.aload_n 0, 1) by decide +kernel) rfl
theorem pX4_post_49 (h : xkd S a = 5) : xX E mX4_post 49 [l0, l1, l2, l3] (.ref a :: st) S V Q ↔ xX E mX4_post 52 [l0, l1, l2, l3] (va_rf (xrf S a 0) :: st) S V Q := xi_getR (show decode cX4_post 49 = .ok (.getfield 10, 3) by decide +kernel) xft_4_10 rfl h
theorem pX4_post_52 {a1 : Nat} (h : xkd S a = 2) (hc : xcat st ≤ 8) : xX E mX4_post 52 [l0, l1, l2, l3] (.ref a1 :: .ref a :: st) S V Q ↔ xC E mX1_record [.ref a, .ref a1] S V (fun v S V => xX E mX4_post 55 [l0, l1, l2, l3] (v.toList ++ st) S V Q) := xi_callV (as := [.ref a1]) (show decode cX4_post 52 = .ok (.invokevirtual 59, 3) by decide +kernel) xct_4_59 rfl rfl (by decide) (Nat.le_of_ble_eq_true rfl) rfl h hc
theorem pX4_post_55 : xX E mX4_post 55 [l0, l1, l2, some (.ref a)] st S V Q ↔ xX E mX4_post 56 [l0, l1, l2, some (.ref a)] (.ref a :: st) S V Q := xi (show decode cX4_post 55 = .ok (.aload_n 3, 1) by decide +kernel) rfl
theorem pX4_post_56 : xX E mX4_post 56 [l0, l1, some (.int x), l3] st S V Q ↔ xX E mX4_post 57 [l0, l1, some (.int x), l3] (.int x :: st) S V Q := xi (show decode cX4_post 56 = .ok (.iload_n 2, 1) by decide +kernel) rfl
theorem pX4_post_57 {x0 : Int32} (h : xkd S a = 1) (hc : xcat st ≤ 8) : xX E mX4_post 57 [l0, l1, l2, l3] (.int x0 :: .ref a :: st) S V Q ↔ xC E mX0_receive [.ref a, .int x0] S V (fun v S V => xX E mX4_post 60 [l0, l1, l2, l3] (v.toList ++ st) S V Q) := xi_callV (as := [.int x0]) (show decode cX4_post 57 = .ok (.invokevirtual 90, 3) by decide +kernel) xct_4_90 rfl rfl (by decide) (Nat.le_of_ble_eq_true rfl) rfl h hc
theorem pX4_post_60 : xX E mX4_post 60 [l0, l1, l2, some (.ref a)] st S V Q ↔ xX E mX4_post 61 [l0, l1, l2, some (.ref a)] (.ref a :: st) S V Q := xi (show decode cX4_post 60 = .ok (.aload_n 3, 1) by decide +kernel) rfl
theorem pX4_post_61 (h : xkd S a = 1) : xX E mX4_post 61 [l0, l1, l2, l3] (.ref a :: st) S V Q ↔ xX E mX4_post 64 [l0, l1, l2, l3] (.int (V a 9) :: st) S V Q := xi_getI (show decode cX4_post 61 = .ok (.getfield 87, 3) by decide +kernel) xft_4_87 rfl h
theorem pX4_post_64 : xX E mX4_post 64 [l0, l1, l2, l3] [.int x] S V Q ↔ Q (some (.int x)) S V := xi_retI (show decode cX4_post 64 = .ok (.ireturn, 1) by decide +kernel) rfl
-- TurnSlots.prefer(II)I
theorem pX4_prefer_0 : xX E mX4_prefer 0 [l0, some (.int x), l2, l3] st S V Q ↔ xX E mX4_prefer 1 [l0, some (.int x), l2, l3] (.int x :: st) S V Q := xi (show decode cX4_prefer 0 = .ok (.iload_n 1, 1) by decide +kernel) rfl
theorem pX4_prefer_1 {x0 : Int32} (hc : xcat st ≤ 8) : xX E mX4_prefer 1 [l0, l1, l2, l3] (.int x0 :: st) S V Q ↔ xC E mX4_isContext [.int x0] S V (fun v S V => xX E mX4_prefer 4 [l0, l1, l2, l3] (v.toList ++ st) S V Q) := xi_callS (as := [.int x0]) (show decode cX4_prefer 1 = .ok (.invokestatic 41, 3) by decide +kernel) xct_4_41 (by decide) rfl rfl (by decide) (Nat.le_of_ble_eq_true rfl) hc
theorem pX4_prefer_4 : xX E mX4_prefer 4 [l0, l1, l2, l3] (.int x :: st) S V Q ↔ if ¬ x = nI 0 then xX E mX4_prefer 9 [l0, l1, l2, l3] st S V Q else xX E mX4_prefer 7 [l0, l1, l2, l3] st S V Q := xi_if (show decode cX4_prefer 4 = .ok (.ifCond .ne 5, 3) by decide +kernel) (by decide) xcb_ne
theorem pX4_prefer_7 : xX E mX4_prefer 7 [l0, l1, l2, l3] st S V Q ↔ xX E mX4_prefer 8 [l0, l1, l2, l3] (.int (-1) :: st) S V Q := xi (show decode cX4_prefer 7 = .ok (.iconst (-1), 1) by decide +kernel) rfl
theorem pX4_prefer_8 : xX E mX4_prefer 8 [l0, l1, l2, l3] [.int x] S V Q ↔ Q (some (.int x)) S V := xi_retI (show decode cX4_prefer 8 = .ok (.ireturn, 1) by decide +kernel) rfl
theorem pX4_prefer_9 : xX E mX4_prefer 9 [l0, l1, some (.int x), l3] st S V Q ↔ xX E mX4_prefer 10 [l0, l1, some (.int x), l3] (.int x :: st) S V Q := xi (show decode cX4_prefer 9 = .ok (.iload_n 2, 1) by decide +kernel) rfl
theorem pX4_prefer_10 {x0 : Int32} (hc : xcat st ≤ 8) : xX E mX4_prefer 10 [l0, l1, l2, l3] (.int x0 :: st) S V Q ↔ xC E mX4_isPriority [.int x0] S V (fun v S V => xX E mX4_prefer 13 [l0, l1, l2, l3] (v.toList ++ st) S V Q) := xi_callS (as := [.int x0]) (show decode cX4_prefer 10 = .ok (.invokestatic 81, 3) by decide +kernel) xct_4_81 (by decide) rfl rfl (by decide) (Nat.le_of_ble_eq_true rfl) hc
theorem pX4_prefer_13 : xX E mX4_prefer 13 [l0, l1, l2, l3] (.int x :: st) S V Q ↔ if ¬ x = nI 0 then xX E mX4_prefer 19 [l0, l1, l2, l3] st S V Q else xX E mX4_prefer 16 [l0, l1, l2, l3] st S V Q := xi_if (show decode cX4_prefer 13 = .ok (.ifCond .ne 6, 3) by decide +kernel) (by decide) xcb_ne
theorem pX4_prefer_16 : xX E mX4_prefer 16 [l0, l1, l2, l3] st S V Q ↔ xX E mX4_prefer 18 [l0, l1, l2, l3] (.int (-2) :: st) S V Q := xi (show decode cX4_prefer 16 = .ok (.bipush (-2), 2) by decide +kernel) rfl
theorem pX4_prefer_18 : xX E mX4_prefer 18 [l0, l1, l2, l3] [.int x] S V Q ↔ Q (some (.int x)) S V := xi_retI (show decode cX4_prefer 18 = .ok (.ireturn, 1) by decide +kernel) rfl
theorem pX4_prefer_19 : xX E mX4_prefer 19 [some (.ref a), l1, l2, l3] st S V Q ↔ xX E mX4_prefer 20 [some (.ref a), l1, l2, l3] (.ref a :: st) S V Q := xi (show decode cX4_prefer 19 = .ok (.aload_n 0, 1) by decide +kernel) rfl
theorem pX4_prefer_20 (h : xkd S a = 5) : xX E mX4_prefer 20 [l0, l1, l2, l3] (.ref a :: st) S V Q ↔ xX E mX4_prefer 23 [l0, l1, l2, l3] (va_rf (xrf S a 2) :: st) S V Q := xi_getR (show decode cX4_prefer 20 = .ok (.getfield 22, 3) by decide +kernel) xft_4_22 rfl h
theorem pX4_prefer_23 : xX E mX4_prefer 23 [some (.ref a), l1, l2, l3] st S V Q ↔ xX E mX4_prefer 24 [some (.ref a), l1, l2, l3] (.ref a :: st) S V Q := xi (show decode cX4_prefer 23 = .ok (.aload_n 0, 1) by decide +kernel) rfl
theorem pX4_prefer_24 (h : xkd S a = 5) : xX E mX4_prefer 24 [l0, l1, l2, l3] (.ref a :: st) S V Q ↔ xX E mX4_prefer 27 [l0, l1, l2, l3] (va_rf (xrf S a 0) :: st) S V Q := xi_getR (show decode cX4_prefer 24 = .ok (.getfield 10, 3) by decide +kernel) xft_4_10 rfl h
theorem pX4_prefer_27 {a1 : Nat} (h : xkd S a = 2) (hc : xcat st ≤ 8) : xX E mX4_prefer 27 [l0, l1, l2, l3] (.ref a1 :: .ref a :: st) S V Q ↔ xC E mX1_record [.ref a, .ref a1] S V (fun v S V => xX E mX4_prefer 30 [l0, l1, l2, l3] (v.toList ++ st) S V Q) := xi_callV (as := [.ref a1]) (show decode cX4_prefer 27 = .ok (.invokevirtual 59, 3) by decide +kernel) xct_4_59 rfl rfl (by decide) (Nat.le_of_ble_eq_true rfl) rfl h hc
theorem pX4_prefer_30 : xX E mX4_prefer 30 [some (.ref a), l1, l2, l3] st S V Q ↔ xX E mX4_prefer 31 [some (.ref a), l1, l2, l3] (.ref a :: st) S V Q := xi (show decode cX4_prefer 30 = .ok (.aload_n 0, 1) by decide +kernel) rfl
theorem pX4_prefer_31 (h : xkd S a = 5) : xX E mX4_prefer 31 [l0, l1, l2, l3] (.ref a :: st) S V Q ↔ xX E mX4_prefer 34 [l0, l1, l2, l3] (va_rf (xrf S a 0) :: st) S V Q := xi_getR (show decode cX4_prefer 31 = .ok (.getfield 10, 3) by decide +kernel) xft_4_10 rfl h
theorem pX4_prefer_34 (h : xkd S a = 3) : xX E mX4_prefer 34 [l0, l1, l2, l3] (.ref a :: st) S V Q ↔ xX E mX4_prefer 37 [l0, l1, l2, l3] (va_rf (xrf S a 0) :: st) S V Q := xi_getR (show decode cX4_prefer 34 = .ok (.getfield 49, 3) by decide +kernel) xft_4_49 rfl h
theorem pX4_prefer_37 : xX E mX4_prefer 37 [l0, some (.int x), l2, l3] st S V Q ↔ xX E mX4_prefer 38 [l0, some (.int x), l2, l3] (.int x :: st) S V Q := xi (show decode cX4_prefer 37 = .ok (.iload_n 1, 1) by decide +kernel) rfl
theorem pX4_prefer_38 (h : xkd S a = 10 ∨ xkd S a = 11) (hi : b < xln S a) (hn : xln S a < 2147483648) : xX E mX4_prefer 38 [l0, l1, l2, l3] (.int (nI b) :: .ref a :: st) S V Q ↔ xX E mX4_prefer 39 [l0, l1, l2, l3] (va_rf (xrf S a b) :: st) S V Q := xi_aald (show decode cX4_prefer 38 = .ok (.aaload, 1) by decide +kernel) h hi hn
theorem pX4_prefer_39 (h : xkd S a = 1) : xX E mX4_prefer 39 [l0, l1, l2, l3] (.ref a :: st) S V Q ↔ xX E mX4_prefer 42 [l0, l1, l2, l3] (.int (V a 8) :: st) S V Q := xi_getI (show decode cX4_prefer 39 = .ok (.getfield 84, 3) by decide +kernel) xft_4_84 rfl h
theorem pX4_prefer_42 (h : xnl l2 = true) : xX E mX4_prefer 42 [l0, l1, l2, l3] (.int x :: st) S V Q ↔ xX E mX4_prefer 43 [l0, l1, l2, some (.int x)] st S V Q := xi_st1 (j := 2) (v := .int x) (show decode cX4_prefer 42 = .ok (.istore_n 3, 1) by decide +kernel) rfl h rfl rfl
theorem pX4_prefer_43 : xX E mX4_prefer 43 [some (.ref a), l1, l2, l3] st S V Q ↔ xX E mX4_prefer 44 [some (.ref a), l1, l2, l3] (.ref a :: st) S V Q := xi (show decode cX4_prefer 43 = .ok (.aload_n 0, 1) by decide +kernel) rfl
theorem pX4_prefer_44 (h : xkd S a = 5) : xX E mX4_prefer 44 [l0, l1, l2, l3] (.ref a :: st) S V Q ↔ xX E mX4_prefer 47 [l0, l1, l2, l3] (va_rf (xrf S a 0) :: st) S V Q := xi_getR (show decode cX4_prefer 44 = .ok (.getfield 10, 3) by decide +kernel) xft_4_10 rfl h
theorem pX4_prefer_47 (h : xkd S a = 3) : xX E mX4_prefer 47 [l0, l1, l2, l3] (.ref a :: st) S V Q ↔ xX E mX4_prefer 50 [l0, l1, l2, l3] (va_rf (xrf S a 0) :: st) S V Q := xi_getR (show decode cX4_prefer 47 = .ok (.getfield 49, 3) by decide +kernel) xft_4_49 rfl h
theorem pX4_prefer_50 : xX E mX4_prefer 50 [l0, some (.int x), l2, l3] st S V Q ↔ xX E mX4_prefer 51 [l0, some (.int x), l2, l3] (.int x :: st) S V Q := xi (show decode cX4_prefer 50 = .ok (.iload_n 1, 1) by decide +kernel) rfl
theorem pX4_prefer_51 (h : xkd S a = 10 ∨ xkd S a = 11) (hi : b < xln S a) (hn : xln S a < 2147483648) : xX E mX4_prefer 51 [l0, l1, l2, l3] (.int (nI b) :: .ref a :: st) S V Q ↔ xX E mX4_prefer 52 [l0, l1, l2, l3] (va_rf (xrf S a b) :: st) S V Q := xi_aald (show decode cX4_prefer 51 = .ok (.aaload, 1) by decide +kernel) h hi hn
theorem pX4_prefer_52 : xX E mX4_prefer 52 [l0, l1, some (.int x), l3] st S V Q ↔ xX E mX4_prefer 53 [l0, l1, some (.int x), l3] (.int x :: st) S V Q := xi (show decode cX4_prefer 52 = .ok (.iload_n 2, 1) by decide +kernel) rfl
theorem pX4_prefer_53 (h : xkd S a = 1) : xX E mX4_prefer 53 [l0, l1, l2, l3] (.int x :: .ref a :: st) S V Q ↔ xX E mX4_prefer 56 [l0, l1, l2, l3] st S (xup V a 8 x) Q := xi_putI (show decode cX4_prefer 53 = .ok (.putfield 84, 3) by decide +kernel) xft_4_84 (by decide) rfl rfl h
theorem pX4_prefer_56 : xX E mX4_prefer 56 [l0, l1, l2, some (.int x)] st S V Q ↔ xX E mX4_prefer 57 [l0, l1, l2, some (.int x)] (.int x :: st) S V Q := xi (show decode cX4_prefer 56 = .ok (.iload_n 3, 1) by decide +kernel) rfl
theorem pX4_prefer_57 : xX E mX4_prefer 57 [l0, l1, l2, l3] [.int x] S V Q ↔ Q (some (.int x)) S V := xi_retI (show decode cX4_prefer 57 = .ok (.ireturn, 1) by decide +kernel) rfl
-- TurnSlots.release(I)I
theorem pX4_release_0 : xX E mX4_release 0 [l0, some (.int x), l2] st S V Q ↔ xX E mX4_release 1 [l0, some (.int x), l2] (.int x :: st) S V Q := xi (show decode cX4_release 0 = .ok (.iload_n 1, 1) by decide +kernel) rfl
theorem pX4_release_1 {x0 : Int32} (hc : xcat st ≤ 8) : xX E mX4_release 1 [l0, l1, l2] (.int x0 :: st) S V Q ↔ xC E mX4_isLock [.int x0] S V (fun v S V => xX E mX4_release 4 [l0, l1, l2] (v.toList ++ st) S V Q) := xi_callS (as := [.int x0]) (show decode cX4_release 1 = .ok (.invokestatic 94, 3) by decide +kernel) xct_4_94 (by decide) rfl rfl (by decide) (Nat.le_of_ble_eq_true rfl) hc
theorem pX4_release_4 : xX E mX4_release 4 [l0, l1, l2] (.int x :: st) S V Q ↔ if ¬ x = nI 0 then xX E mX4_release 9 [l0, l1, l2] st S V Q else xX E mX4_release 7 [l0, l1, l2] st S V Q := xi_if (show decode cX4_release 4 = .ok (.ifCond .ne 5, 3) by decide +kernel) (by decide) xcb_ne
theorem pX4_release_7 : xX E mX4_release 7 [l0, l1, l2] st S V Q ↔ xX E mX4_release 8 [l0, l1, l2] (.int (-1) :: st) S V Q := xi (show decode cX4_release 7 = .ok (.iconst (-1), 1) by decide +kernel) rfl
theorem pX4_release_8 : xX E mX4_release 8 [l0, l1, l2] [.int x] S V Q ↔ Q (some (.int x)) S V := xi_retI (show decode cX4_release 8 = .ok (.ireturn, 1) by decide +kernel) rfl
theorem pX4_release_9 : xX E mX4_release 9 [some (.ref a), l1, l2] st S V Q ↔ xX E mX4_release 10 [some (.ref a), l1, l2] (.ref a :: st) S V Q := xi (show decode cX4_release 9 = .ok (.aload_n 0, 1) by decide +kernel) rfl
theorem pX4_release_10 (h : xkd S a = 5) : xX E mX4_release 10 [l0, l1, l2] (.ref a :: st) S V Q ↔ xX E mX4_release 13 [l0, l1, l2] (va_rf (xrf S a 0) :: st) S V Q := xi_getR (show decode cX4_release 10 = .ok (.getfield 10, 3) by decide +kernel) xft_4_10 rfl h
theorem pX4_release_13 (h : xkd S a = 3) : xX E mX4_release 13 [l0, l1, l2] (.ref a :: st) S V Q ↔ xX E mX4_release 16 [l0, l1, l2] (va_rf (xrf S a 1) :: st) S V Q := xi_getR (show decode cX4_release 13 = .ok (.getfield 97, 3) by decide +kernel) xft_4_97 rfl h
theorem pX4_release_16 : xX E mX4_release 16 [l0, some (.int x), l2] st S V Q ↔ xX E mX4_release 17 [l0, some (.int x), l2] (.int x :: st) S V Q := xi (show decode cX4_release 16 = .ok (.iload_n 1, 1) by decide +kernel) rfl
theorem pX4_release_17 (h : xkd S a = 7 ∨ xkd S a = 14) (hi : b < xln S a) (hn : xln S a < 2147483648) : xX E mX4_release 17 [l0, l1, l2] (.int (nI b) :: .ref a :: st) S V Q ↔ xX E mX4_release 18 [l0, l1, l2] (.int (V a b) :: st) S V Q := xi_iald (show decode cX4_release 17 = .ok (.iaload, 1) by decide +kernel) h hi hn
theorem pX4_release_18 (h : xnl l1 = true) : xX E mX4_release 18 [l0, l1, l2] (.int x :: st) S V Q ↔ xX E mX4_release 19 [l0, l1, some (.int x)] st S V Q := xi_st1 (j := 1) (v := .int x) (show decode cX4_release 18 = .ok (.istore_n 2, 1) by decide +kernel) rfl h rfl rfl
theorem pX4_release_19 : xX E mX4_release 19 [l0, l1, some (.int x)] st S V Q ↔ xX E mX4_release 20 [l0, l1, some (.int x)] (.int x :: st) S V Q := xi (show decode cX4_release 19 = .ok (.iload_n 2, 1) by decide +kernel) rfl
theorem pX4_release_20 : xX E mX4_release 20 [l0, l1, l2] st S V Q ↔ xX E mX4_release 22 [l0, l1, l2] (.int (-6) :: st) S V Q := xi (show decode cX4_release 20 = .ok (.bipush (-6), 2) by decide +kernel) rfl
theorem pX4_release_22 : xX E mX4_release 22 [l0, l1, l2] (.int y :: .int x :: st) S V Q ↔ if ¬ x = y then xX E mX4_release 28 [l0, l1, l2] st S V Q else xX E mX4_release 25 [l0, l1, l2] st S V Q := xi_icmp (show decode cX4_release 22 = .ok (.if_icmp .ne 6, 3) by decide +kernel) (by decide) xcb_ne
theorem pX4_release_25 : xX E mX4_release 25 [l0, l1, l2] st S V Q ↔ xX E mX4_release 27 [l0, l1, l2] (.int (-5) :: st) S V Q := xi (show decode cX4_release 25 = .ok (.bipush (-5), 2) by decide +kernel) rfl
theorem pX4_release_27 : xX E mX4_release 27 [l0, l1, l2] [.int x] S V Q ↔ Q (some (.int x)) S V := xi_retI (show decode cX4_release 27 = .ok (.ireturn, 1) by decide +kernel) rfl
theorem pX4_release_28 : xX E mX4_release 28 [some (.ref a), l1, l2] st S V Q ↔ xX E mX4_release 29 [some (.ref a), l1, l2] (.ref a :: st) S V Q := xi (show decode cX4_release 28 = .ok (.aload_n 0, 1) by decide +kernel) rfl
theorem pX4_release_29 (h : xkd S a = 5) : xX E mX4_release 29 [l0, l1, l2] (.ref a :: st) S V Q ↔ xX E mX4_release 32 [l0, l1, l2] (va_rf (xrf S a 2) :: st) S V Q := xi_getR (show decode cX4_release 29 = .ok (.getfield 22, 3) by decide +kernel) xft_4_22 rfl h
theorem pX4_release_32 : xX E mX4_release 32 [some (.ref a), l1, l2] st S V Q ↔ xX E mX4_release 33 [some (.ref a), l1, l2] (.ref a :: st) S V Q := xi (show decode cX4_release 32 = .ok (.aload_n 0, 1) by decide +kernel) rfl
theorem pX4_release_33 (h : xkd S a = 5) : xX E mX4_release 33 [l0, l1, l2] (.ref a :: st) S V Q ↔ xX E mX4_release 36 [l0, l1, l2] (va_rf (xrf S a 0) :: st) S V Q := xi_getR (show decode cX4_release 33 = .ok (.getfield 10, 3) by decide +kernel) xft_4_10 rfl h
theorem pX4_release_36 {a1 : Nat} (h : xkd S a = 2) (hc : xcat st ≤ 8) : xX E mX4_release 36 [l0, l1, l2] (.ref a1 :: .ref a :: st) S V Q ↔ xC E mX1_record [.ref a, .ref a1] S V (fun v S V => xX E mX4_release 39 [l0, l1, l2] (v.toList ++ st) S V Q) := xi_callV (as := [.ref a1]) (show decode cX4_release 36 = .ok (.invokevirtual 59, 3) by decide +kernel) xct_4_59 rfl rfl (by decide) (Nat.le_of_ble_eq_true rfl) rfl h hc
theorem pX4_release_39 : xX E mX4_release 39 [some (.ref a), l1, l2] st S V Q ↔ xX E mX4_release 40 [some (.ref a), l1, l2] (.ref a :: st) S V Q := xi (show decode cX4_release 39 = .ok (.aload_n 0, 1) by decide +kernel) rfl
theorem pX4_release_40 (h : xkd S a = 5) : xX E mX4_release 40 [l0, l1, l2] (.ref a :: st) S V Q ↔ xX E mX4_release 43 [l0, l1, l2] (va_rf (xrf S a 0) :: st) S V Q := xi_getR (show decode cX4_release 40 = .ok (.getfield 10, 3) by decide +kernel) xft_4_10 rfl h
theorem pX4_release_43 (h : xkd S a = 3) : xX E mX4_release 43 [l0, l1, l2] (.ref a :: st) S V Q ↔ xX E mX4_release 46 [l0, l1, l2] (va_rf (xrf S a 1) :: st) S V Q := xi_getR (show decode cX4_release 43 = .ok (.getfield 97, 3) by decide +kernel) xft_4_97 rfl h
theorem pX4_release_46 : xX E mX4_release 46 [l0, some (.int x), l2] st S V Q ↔ xX E mX4_release 47 [l0, some (.int x), l2] (.int x :: st) S V Q := xi (show decode cX4_release 46 = .ok (.iload_n 1, 1) by decide +kernel) rfl
theorem pX4_release_47 : xX E mX4_release 47 [l0, l1, l2] st S V Q ↔ xX E mX4_release 49 [l0, l1, l2] (.int (-6) :: st) S V Q := xi (show decode cX4_release 47 = .ok (.bipush (-6), 2) by decide +kernel) rfl
theorem pX4_release_49 (h : xkd S a = 7) (hi : b < xln S a) (hn : xln S a < 2147483648) : xX E mX4_release 49 [l0, l1, l2] (.int x :: .int (nI b) :: .ref a :: st) S V Q ↔ xX E mX4_release 50 [l0, l1, l2] st S (xup V a b x) Q := xi_iast (show decode cX4_release 49 = .ok (.iastore, 1) by decide +kernel) h hi hn
theorem pX4_release_50 : xX E mX4_release 50 [l0, l1, some (.int x)] st S V Q ↔ xX E mX4_release 51 [l0, l1, some (.int x)] (.int x :: st) S V Q := xi (show decode cX4_release 50 = .ok (.iload_n 2, 1) by decide +kernel) rfl
theorem pX4_release_51 : xX E mX4_release 51 [l0, l1, l2] [.int x] S V Q ↔ Q (some (.int x)) S V := xi_retI (show decode cX4_release 51 = .ok (.ireturn, 1) by decide +kernel) rfl
-- TurnSlots.restore(I)I
theorem pX4_restore_0 : xX E mX4_restore 0 [l0, some (.int x)] st S V Q ↔ xX E mX4_restore 1 [l0, some (.int x)] (.int x :: st) S V Q := xi (show decode cX4_restore 0 = .ok (.iload_n 1, 1) by decide +kernel) rfl
theorem pX4_restore_1 {x0 : Int32} (hc : xcat st ≤ 8) : xX E mX4_restore 1 [l0, l1] (.int x0 :: st) S V Q ↔ xC E mX4_isSave [.int x0] S V (fun v S V => xX E mX4_restore 4 [l0, l1] (v.toList ++ st) S V Q) := xi_callS (as := [.int x0]) (show decode cX4_restore 1 = .ok (.invokestatic 201, 3) by decide +kernel) xct_4_201 (by decide) rfl rfl (by decide) (Nat.le_of_ble_eq_true rfl) hc
theorem pX4_restore_4 : xX E mX4_restore 4 [l0, l1] (.int x :: st) S V Q ↔ if ¬ x = nI 0 then xX E mX4_restore 10 [l0, l1] st S V Q else xX E mX4_restore 7 [l0, l1] st S V Q := xi_if (show decode cX4_restore 4 = .ok (.ifCond .ne 6, 3) by decide +kernel) (by decide) xcb_ne
theorem pX4_restore_7 : xX E mX4_restore 7 [l0, l1] st S V Q ↔ xX E mX4_restore 9 [l0, l1] (.int (-2) :: st) S V Q := xi (show decode cX4_restore 7 = .ok (.bipush (-2), 2) by decide +kernel) rfl
theorem pX4_restore_9 : xX E mX4_restore 9 [l0, l1] [.int x] S V Q ↔ Q (some (.int x)) S V := xi_retI (show decode cX4_restore 9 = .ok (.ireturn, 1) by decide +kernel) rfl
theorem pX4_restore_10 : xX E mX4_restore 10 [some (.ref a), l1] st S V Q ↔ xX E mX4_restore 11 [some (.ref a), l1] (.ref a :: st) S V Q := xi (show decode cX4_restore 10 = .ok (.aload_n 0, 1) by decide +kernel) rfl
theorem pX4_restore_11 (h : xkd S a = 5) : xX E mX4_restore 11 [l0, l1] (.ref a :: st) S V Q ↔ xX E mX4_restore 14 [l0, l1] (va_rf (xrf S a 4) :: st) S V Q := xi_getR (show decode cX4_restore 11 = .ok (.getfield 30, 3) by decide +kernel) xft_4_30 rfl h
theorem pX4_restore_14 : xX E mX4_restore 14 [l0, some (.int x)] st S V Q ↔ xX E mX4_restore 15 [l0, some (.int x)] (.int x :: st) S V Q := xi (show decode cX4_restore 14 = .ok (.iload_n 1, 1) by decide +kernel) rfl
theorem pX4_restore_15 (h : xkd S a = 9 ∨ xkd S a = 12) (hi : b < xln S a) (hn : xln S a < 2147483648) : xX E mX4_restore 15 [l0, l1] (.int (nI b) :: .ref a :: st) S V Q ↔ xX E mX4_restore 16 [l0, l1] (.int (V a b) :: st) S V Q := xi_bald (show decode cX4_restore 15 = .ok (.baload, 1) by decide +kernel) h hi hn
theorem pX4_restore_16 : xX E mX4_restore 16 [l0, l1] (.int x :: st) S V Q ↔ if ¬ x = nI 0 then xX E mX4_restore 22 [l0, l1] st S V Q else xX E mX4_restore 19 [l0, l1] st S V Q := xi_if (show decode cX4_restore 16 = .ok (.ifCond .ne 6, 3) by decide +kernel) (by decide) xcb_ne
theorem pX4_restore_19 : xX E mX4_restore 19 [l0, l1] st S V Q ↔ xX E mX4_restore 21 [l0, l1] (.int (-5) :: st) S V Q := xi (show decode cX4_restore 19 = .ok (.bipush (-5), 2) by decide +kernel) rfl
theorem pX4_restore_21 : xX E mX4_restore 21 [l0, l1] [.int x] S V Q ↔ Q (some (.int x)) S V := xi_retI (show decode cX4_restore 21 = .ok (.ireturn, 1) by decide +kernel) rfl
theorem pX4_restore_22 : xX E mX4_restore 22 [some (.ref a), l1] st S V Q ↔ xX E mX4_restore 23 [some (.ref a), l1] (.ref a :: st) S V Q := xi (show decode cX4_restore 22 = .ok (.aload_n 0, 1) by decide +kernel) rfl
theorem pX4_restore_23 (h : xkd S a = 5) : xX E mX4_restore 23 [l0, l1] (.ref a :: st) S V Q ↔ xX E mX4_restore 26 [l0, l1] (va_rf (xrf S a 2) :: st) S V Q := xi_getR (show decode cX4_restore 23 = .ok (.getfield 22, 3) by decide +kernel) xft_4_22 rfl h
theorem pX4_restore_26 : xX E mX4_restore 26 [some (.ref a), l1] st S V Q ↔ xX E mX4_restore 27 [some (.ref a), l1] (.ref a :: st) S V Q := xi (show decode cX4_restore 26 = .ok (.aload_n 0, 1) by decide +kernel) rfl
theorem pX4_restore_27 (h : xkd S a = 5) : xX E mX4_restore 27 [l0, l1] (.ref a :: st) S V Q ↔ xX E mX4_restore 30 [l0, l1] (va_rf (xrf S a 0) :: st) S V Q := xi_getR (show decode cX4_restore 27 = .ok (.getfield 10, 3) by decide +kernel) xft_4_10 rfl h
theorem pX4_restore_30 {a1 : Nat} (h : xkd S a = 2) (hc : xcat st ≤ 8) : xX E mX4_restore 30 [l0, l1] (.ref a1 :: .ref a :: st) S V Q ↔ xC E mX1_record [.ref a, .ref a1] S V (fun v S V => xX E mX4_restore 33 [l0, l1] (v.toList ++ st) S V Q) := xi_callV (as := [.ref a1]) (show decode cX4_restore 30 = .ok (.invokevirtual 59, 3) by decide +kernel) xct_4_59 rfl rfl (by decide) (Nat.le_of_ble_eq_true rfl) rfl h hc
theorem pX4_restore_33 : xX E mX4_restore 33 [some (.ref a), l1] st S V Q ↔ xX E mX4_restore 34 [some (.ref a), l1] (.ref a :: st) S V Q := xi (show decode cX4_restore 33 = .ok (.aload_n 0, 1) by decide +kernel) rfl
theorem pX4_restore_34 (h : xkd S a = 5) : xX E mX4_restore 34 [l0, l1] (.ref a :: st) S V Q ↔ xX E mX4_restore 37 [l0, l1] (va_rf (xrf S a 0) :: st) S V Q := xi_getR (show decode cX4_restore 34 = .ok (.getfield 10, 3) by decide +kernel) xft_4_10 rfl h
theorem pX4_restore_37 : xX E mX4_restore 37 [some (.ref a), l1] st S V Q ↔ xX E mX4_restore 38 [some (.ref a), l1] (.ref a :: st) S V Q := xi (show decode cX4_restore 37 = .ok (.aload_n 0, 1) by decide +kernel) rfl
theorem pX4_restore_38 (h : xkd S a = 5) : xX E mX4_restore 38 [l0, l1] (.ref a :: st) S V Q ↔ xX E mX4_restore 41 [l0, l1] (va_rf (xrf S a 3) :: st) S V Q := xi_getR (show decode cX4_restore 38 = .ok (.getfield 26, 3) by decide +kernel) xft_4_26 rfl h
theorem pX4_restore_41 : xX E mX4_restore 41 [l0, some (.int x)] st S V Q ↔ xX E mX4_restore 42 [l0, some (.int x)] (.int x :: st) S V Q := xi (show decode cX4_restore 41 = .ok (.iload_n 1, 1) by decide +kernel) rfl
theorem pX4_restore_42 (h : xkd S a = 10 ∨ xkd S a = 11) (hi : b < xln S a) (hn : xln S a < 2147483648) : xX E mX4_restore 42 [l0, l1] (.int (nI b) :: .ref a :: st) S V Q ↔ xX E mX4_restore 43 [l0, l1] (va_rf (xrf S a b) :: st) S V Q := xi_aald (show decode cX4_restore 42 = .ok (.aaload, 1) by decide +kernel) h hi hn
theorem pX4_restore_43 {a1 : Nat} (h : xkd S a = 3) (hc : xcat st ≤ 8) : xX E mX4_restore 43 [l0, l1] (.ref a1 :: .ref a :: st) S V Q ↔ xC E mX2_copyFrom [.ref a, .ref a1] S V (fun v S V => xX E mX4_restore 46 [l0, l1] (v.toList ++ st) S V Q) := xi_callV (as := [.ref a1]) (show decode cX4_restore 43 = .ok (.invokevirtual 204, 3) by decide +kernel) xct_4_204 rfl rfl (by decide) (Nat.le_of_ble_eq_true rfl) rfl h hc
theorem pX4_restore_46 : xX E mX4_restore 46 [some (.ref a), l1] st S V Q ↔ xX E mX4_restore 47 [some (.ref a), l1] (.ref a :: st) S V Q := xi (show decode cX4_restore 46 = .ok (.aload_n 0, 1) by decide +kernel) rfl
theorem pX4_restore_47 (h : xkd S a = 5) : xX E mX4_restore 47 [l0, l1] (.ref a :: st) S V Q ↔ xX E mX4_restore 50 [l0, l1] (va_rf (xrf S a 0) :: st) S V Q := xi_getR (show decode cX4_restore 47 = .ok (.getfield 10, 3) by decide +kernel) xft_4_10 rfl h
theorem pX4_restore_50 (h : xkd S a = 3) : xX E mX4_restore 50 [l0, l1] (.ref a :: st) S V Q ↔ xX E mX4_restore 53 [l0, l1] (.int (V a 3) :: st) S V Q := xi_getI (show decode cX4_restore 50 = .ok (.getfield 104, 3) by decide +kernel) xft_4_104 rfl h
theorem pX4_restore_53 : xX E mX4_restore 53 [l0, l1] [.int x] S V Q ↔ Q (some (.int x)) S V := xi_retI (show decode cX4_restore 53 = .ok (.ireturn, 1) by decide +kernel) rfl
-- TurnSlots.undo()I
theorem pX4_undo_0 : xX E mX4_undo 0 [some (.ref a)] st S V Q ↔ xX E mX4_undo 1 [some (.ref a)] (.ref a :: st) S V Q := xi (show decode cX4_undo 0 = .ok (.aload_n 0, 1) by decide +kernel) rfl
theorem pX4_undo_1 (h : xkd S a = 5) : xX E mX4_undo 1 [l0] (.ref a :: st) S V Q ↔ xX E mX4_undo 4 [l0] (va_rf (xrf S a 2) :: st) S V Q := xi_getR (show decode cX4_undo 1 = .ok (.getfield 22, 3) by decide +kernel) xft_4_22 rfl h
theorem pX4_undo_4 (h : xkd S a = 2) : xX E mX4_undo 4 [l0] (.ref a :: st) S V Q ↔ xX E mX4_undo 7 [l0] (.int (V a 2) :: st) S V Q := xi_getI (show decode cX4_undo 4 = .ok (.getfield 185, 3) by decide +kernel) xft_4_185 rfl h
theorem pX4_undo_7 : xX E mX4_undo 7 [l0] (.int x :: st) S V Q ↔ if ¬ x = nI 0 then xX E mX4_undo 13 [l0] st S V Q else xX E mX4_undo 10 [l0] st S V Q := xi_if (show decode cX4_undo 7 = .ok (.ifCond .ne 6, 3) by decide +kernel) (by decide) xcb_ne
theorem pX4_undo_10 : xX E mX4_undo 10 [l0] st S V Q ↔ xX E mX4_undo 12 [l0] (.int (-5) :: st) S V Q := xi (show decode cX4_undo 10 = .ok (.bipush (-5), 2) by decide +kernel) rfl
theorem pX4_undo_12 : xX E mX4_undo 12 [l0] [.int x] S V Q ↔ Q (some (.int x)) S V := xi_retI (show decode cX4_undo 12 = .ok (.ireturn, 1) by decide +kernel) rfl
theorem pX4_undo_13 : xX E mX4_undo 13 [some (.ref a)] st S V Q ↔ xX E mX4_undo 14 [some (.ref a)] (.ref a :: st) S V Q := xi (show decode cX4_undo 13 = .ok (.aload_n 0, 1) by decide +kernel) rfl
theorem pX4_undo_14 (h : xkd S a = 5) : xX E mX4_undo 14 [l0] (.ref a :: st) S V Q ↔ xX E mX4_undo 17 [l0] (va_rf (xrf S a 2) :: st) S V Q := xi_getR (show decode cX4_undo 14 = .ok (.getfield 22, 3) by decide +kernel) xft_4_22 rfl h
theorem pX4_undo_17 : xX E mX4_undo 17 [some (.ref a)] st S V Q ↔ xX E mX4_undo 18 [some (.ref a)] (.ref a :: st) S V Q := xi (show decode cX4_undo 17 = .ok (.aload_n 0, 1) by decide +kernel) rfl
theorem pX4_undo_18 (h : xkd S a = 5) : xX E mX4_undo 18 [l0] (.ref a :: st) S V Q ↔ xX E mX4_undo 21 [l0] (va_rf (xrf S a 0) :: st) S V Q := xi_getR (show decode cX4_undo 18 = .ok (.getfield 10, 3) by decide +kernel) xft_4_10 rfl h
theorem pX4_undo_21 {a1 : Nat} (h : xkd S a = 2) (hc : xcat st ≤ 8) : xX E mX4_undo 21 [l0] (.ref a1 :: .ref a :: st) S V Q ↔ xC E mX1_takeBack [.ref a, .ref a1] S V (fun v S V => xX E mX4_undo 24 [l0] (v.toList ++ st) S V Q) := xi_callV (as := [.ref a1]) (show decode cX4_undo 21 = .ok (.invokevirtual 198, 3) by decide +kernel) xct_4_198 rfl rfl (by decide) (Nat.le_of_ble_eq_true rfl) rfl h hc
theorem pX4_undo_24 : xX E mX4_undo 24 [some (.ref a)] st S V Q ↔ xX E mX4_undo 25 [some (.ref a)] (.ref a :: st) S V Q := xi (show decode cX4_undo 24 = .ok (.aload_n 0, 1) by decide +kernel) rfl
theorem pX4_undo_25 (h : xkd S a = 5) : xX E mX4_undo 25 [l0] (.ref a :: st) S V Q ↔ xX E mX4_undo 28 [l0] (va_rf (xrf S a 2) :: st) S V Q := xi_getR (show decode cX4_undo 25 = .ok (.getfield 22, 3) by decide +kernel) xft_4_22 rfl h
theorem pX4_undo_28 (h : xkd S a = 2) : xX E mX4_undo 28 [l0] (.ref a :: st) S V Q ↔ xX E mX4_undo 31 [l0] (.int (V a 2) :: st) S V Q := xi_getI (show decode cX4_undo 28 = .ok (.getfield 185, 3) by decide +kernel) xft_4_185 rfl h
theorem pX4_undo_31 : xX E mX4_undo 31 [l0] [.int x] S V Q ↔ Q (some (.int x)) S V := xi_retI (show decode cX4_undo 31 = .ok (.ireturn, 1) by decide +kernel) rfl
-- TurnSlots.count(I)I
theorem pX4_count_0 : xX E mX4_count 0 [l0, some (.int x)] st S V Q ↔ xX E mX4_count 1 [l0, some (.int x)] (.int x :: st) S V Q := xi (show decode cX4_count 0 = .ok (.iload_n 1, 1) by decide +kernel) rfl
theorem pX4_count_1_k0 : xX E mX4_count 1 [l0, l1] (.int (nI 0) :: st) S V Q ↔ xX E mX4_count 56 [l0, l1] st S V Q := xi_tab (off := 55) (show decode cX4_count 1 = .ok (.tableswitch 148 0 9 #[55, 63, 75, 84, 92, 108, 116, 124, 132, 140], 55) by decide +kernel) (by decide) (by decide) (by decide)
theorem pX4_count_1_k1 : xX E mX4_count 1 [l0, l1] (.int (nI 1) :: st) S V Q ↔ xX E mX4_count 64 [l0, l1] st S V Q := xi_tab (off := 63) (show decode cX4_count 1 = .ok (.tableswitch 148 0 9 #[55, 63, 75, 84, 92, 108, 116, 124, 132, 140], 55) by decide +kernel) (by decide) (by decide) (by decide)
theorem pX4_count_1_k2 : xX E mX4_count 1 [l0, l1] (.int (nI 2) :: st) S V Q ↔ xX E mX4_count 76 [l0, l1] st S V Q := xi_tab (off := 75) (show decode cX4_count 1 = .ok (.tableswitch 148 0 9 #[55, 63, 75, 84, 92, 108, 116, 124, 132, 140], 55) by decide +kernel) (by decide) (by decide) (by decide)
theorem pX4_count_1_k3 : xX E mX4_count 1 [l0, l1] (.int (nI 3) :: st) S V Q ↔ xX E mX4_count 85 [l0, l1] st S V Q := xi_tab (off := 84) (show decode cX4_count 1 = .ok (.tableswitch 148 0 9 #[55, 63, 75, 84, 92, 108, 116, 124, 132, 140], 55) by decide +kernel) (by decide) (by decide) (by decide)
theorem pX4_count_1_k4 : xX E mX4_count 1 [l0, l1] (.int (nI 4) :: st) S V Q ↔ xX E mX4_count 93 [l0, l1] st S V Q := xi_tab (off := 92) (show decode cX4_count 1 = .ok (.tableswitch 148 0 9 #[55, 63, 75, 84, 92, 108, 116, 124, 132, 140], 55) by decide +kernel) (by decide) (by decide) (by decide)
theorem pX4_count_1_k5 : xX E mX4_count 1 [l0, l1] (.int (nI 5) :: st) S V Q ↔ xX E mX4_count 109 [l0, l1] st S V Q := xi_tab (off := 108) (show decode cX4_count 1 = .ok (.tableswitch 148 0 9 #[55, 63, 75, 84, 92, 108, 116, 124, 132, 140], 55) by decide +kernel) (by decide) (by decide) (by decide)
theorem pX4_count_1_k6 : xX E mX4_count 1 [l0, l1] (.int (nI 6) :: st) S V Q ↔ xX E mX4_count 117 [l0, l1] st S V Q := xi_tab (off := 116) (show decode cX4_count 1 = .ok (.tableswitch 148 0 9 #[55, 63, 75, 84, 92, 108, 116, 124, 132, 140], 55) by decide +kernel) (by decide) (by decide) (by decide)
theorem pX4_count_1_k7 : xX E mX4_count 1 [l0, l1] (.int (nI 7) :: st) S V Q ↔ xX E mX4_count 125 [l0, l1] st S V Q := xi_tab (off := 124) (show decode cX4_count 1 = .ok (.tableswitch 148 0 9 #[55, 63, 75, 84, 92, 108, 116, 124, 132, 140], 55) by decide +kernel) (by decide) (by decide) (by decide)
theorem pX4_count_1_k8 : xX E mX4_count 1 [l0, l1] (.int (nI 8) :: st) S V Q ↔ xX E mX4_count 133 [l0, l1] st S V Q := xi_tab (off := 132) (show decode cX4_count 1 = .ok (.tableswitch 148 0 9 #[55, 63, 75, 84, 92, 108, 116, 124, 132, 140], 55) by decide +kernel) (by decide) (by decide) (by decide)
theorem pX4_count_1_k9 : xX E mX4_count 1 [l0, l1] (.int (nI 9) :: st) S V Q ↔ xX E mX4_count 141 [l0, l1] st S V Q := xi_tab (off := 140) (show decode cX4_count 1 = .ok (.tableswitch 148 0 9 #[55, 63, 75, 84, 92, 108, 116, 124, 132, 140], 55) by decide +kernel) (by decide) (by decide) (by decide)
theorem pX4_count_1_d (h : x.toInt < 0 ∨ 9 < x.toInt) : xX E mX4_count 1 [l0, l1] (.int x :: st) S V Q ↔ xX E mX4_count 149 [l0, l1] st S V Q := xi_tab (off := 148) (show decode cX4_count 1 = .ok (.tableswitch 148 0 9 #[55, 63, 75, 84, 92, 108, 116, 124, 132, 140], 55) by decide +kernel) (if_pos h) (by decide) (by decide)
theorem pX4_count_56 : xX E mX4_count 56 [some (.ref a), l1] st S V Q ↔ xX E mX4_count 57 [some (.ref a), l1] (.ref a :: st) S V Q := xi (show decode cX4_count 56 = .ok (.aload_n 0, 1) by decide +kernel) rfl
theorem pX4_count_57 (h : xkd S a = 5) : xX E mX4_count 57 [l0, l1] (.ref a :: st) S V Q ↔ xX E mX4_count 60 [l0, l1] (va_rf (xrf S a 0) :: st) S V Q := xi_getR (show decode cX4_count 57 = .ok (.getfield 10, 3) by decide +kernel) xft_4_10 rfl h
theorem pX4_count_60 (h : xkd S a = 3) : xX E mX4_count 60 [l0, l1] (.ref a :: st) S V Q ↔ xX E mX4_count 63 [l0, l1] (.int (V a 3) :: st) S V Q := xi_getI (show decode cX4_count 60 = .ok (.getfield 104, 3) by decide +kernel) xft_4_104 rfl h
theorem pX4_count_63 : xX E mX4_count 63 [l0, l1] [.int x] S V Q ↔ Q (some (.int x)) S V := xi_retI (show decode cX4_count 63 = .ok (.ireturn, 1) by decide +kernel) rfl
theorem pX4_count_64 : xX E mX4_count 64 [some (.ref a), l1] st S V Q ↔ xX E mX4_count 65 [some (.ref a), l1] (.ref a :: st) S V Q := xi (show decode cX4_count 64 = .ok (.aload_n 0, 1) by decide +kernel) rfl
theorem pX4_count_65 (h : xkd S a = 5) : xX E mX4_count 65 [l0, l1] (.ref a :: st) S V Q ↔ xX E mX4_count 68 [l0, l1] (va_rf (xrf S a 0) :: st) S V Q := xi_getR (show decode cX4_count 65 = .ok (.getfield 10, 3) by decide +kernel) xft_4_10 rfl h
theorem pX4_count_68 : xX E mX4_count 68 [l0, l1] st S V Q ↔ xX E mX4_count 69 [l0, l1] (.int (nI 0) :: st) S V Q := xi (show decode cX4_count 68 = .ok (.iconst 0, 1) by decide +kernel) rfl
theorem pX4_count_69 {x0 : Int32} (h : xkd S a = 3) (hc : xcat st ≤ 8) : xX E mX4_count 69 [l0, l1] (.int x0 :: .ref a :: st) S V Q ↔ xC E mX2_setIn [.ref a, .int x0] S V (fun v S V => xX E mX4_count 72 [l0, l1] (v.toList ++ st) S V Q) := xi_callV (as := [.int x0]) (show decode cX4_count 69 = .ok (.invokevirtual 160, 3) by decide +kernel) xct_4_160 rfl rfl (by decide) (Nat.le_of_ble_eq_true rfl) rfl h hc
theorem pX4_count_72 {x0 : Int32} (hc : xcat st ≤ 8) : xX E mX4_count 72 [l0, l1] (.int x0 :: st) S V Q ↔ xC E mJ6_bitCount_0f7a4 [.int x0] S V (fun v S V => xX E mX4_count 75 [l0, l1] (v.toList ++ st) S V Q) := xi_callS (as := [.int x0]) (show decode cX4_count 72 = .ok (.invokestatic 163, 3) by decide +kernel) xct_4_163 (by decide) rfl rfl (by decide) (Nat.le_of_ble_eq_true rfl) hc
theorem pX4_count_75 : xX E mX4_count 75 [l0, l1] [.int x] S V Q ↔ Q (some (.int x)) S V := xi_retI (show decode cX4_count 75 = .ok (.ireturn, 1) by decide +kernel) rfl
theorem pX4_count_76 : xX E mX4_count 76 [some (.ref a), l1] st S V Q ↔ xX E mX4_count 77 [some (.ref a), l1] (.ref a :: st) S V Q := xi (show decode cX4_count 76 = .ok (.aload_n 0, 1) by decide +kernel) rfl
theorem pX4_count_77 (h : xkd S a = 5) : xX E mX4_count 77 [l0, l1] (.ref a :: st) S V Q ↔ xX E mX4_count 80 [l0, l1] (va_rf (xrf S a 0) :: st) S V Q := xi_getR (show decode cX4_count 77 = .ok (.getfield 10, 3) by decide +kernel) xft_4_10 rfl h
theorem pX4_count_80 : xX E mX4_count 80 [l0, l1] st S V Q ↔ xX E mX4_count 81 [l0, l1] (.int (nI 1) :: st) S V Q := xi (show decode cX4_count 80 = .ok (.iconst 1, 1) by decide +kernel) rfl
theorem pX4_count_81 {x0 : Int32} (h : xkd S a = 3) (hc : xcat st ≤ 8) : xX E mX4_count 81 [l0, l1] (.int x0 :: .ref a :: st) S V Q ↔ xC E mX2_setIn [.ref a, .int x0] S V (fun v S V => xX E mX4_count 84 [l0, l1] (v.toList ++ st) S V Q) := xi_callV (as := [.int x0]) (show decode cX4_count 81 = .ok (.invokevirtual 160, 3) by decide +kernel) xct_4_160 rfl rfl (by decide) (Nat.le_of_ble_eq_true rfl) rfl h hc
theorem pX4_count_84 : xX E mX4_count 84 [l0, l1] [.int x] S V Q ↔ Q (some (.int x)) S V := xi_retI (show decode cX4_count 84 = .ok (.ireturn, 1) by decide +kernel) rfl
theorem pX4_count_85 : xX E mX4_count 85 [some (.ref a), l1] st S V Q ↔ xX E mX4_count 86 [some (.ref a), l1] (.ref a :: st) S V Q := xi (show decode cX4_count 85 = .ok (.aload_n 0, 1) by decide +kernel) rfl
theorem pX4_count_86 (h : xkd S a = 5) : xX E mX4_count 86 [l0, l1] (.ref a :: st) S V Q ↔ xX E mX4_count 89 [l0, l1] (va_rf (xrf S a 0) :: st) S V Q := xi_getR (show decode cX4_count 86 = .ok (.getfield 10, 3) by decide +kernel) xft_4_10 rfl h
theorem pX4_count_89  (h : xkd S a = 3) (hc : xcat st ≤ 8) : xX E mX4_count 89 [l0, l1] (.ref a :: st) S V Q ↔ xC E mX2_ringSet [.ref a] S V (fun v S V => xX E mX4_count 92 [l0, l1] (v.toList ++ st) S V Q) := xi_callV (as := []) (show decode cX4_count 89 = .ok (.invokevirtual 139, 3) by decide +kernel) xct_4_139 rfl rfl (by decide) (Nat.le_of_ble_eq_true rfl) rfl h hc
theorem pX4_count_92 : xX E mX4_count 92 [l0, l1] [.int x] S V Q ↔ Q (some (.int x)) S V := xi_retI (show decode cX4_count 92 = .ok (.ireturn, 1) by decide +kernel) rfl
theorem pX4_count_93 : xX E mX4_count 93 [some (.ref a), l1] st S V Q ↔ xX E mX4_count 94 [some (.ref a), l1] (.ref a :: st) S V Q := xi (show decode cX4_count 93 = .ok (.aload_n 0, 1) by decide +kernel) rfl
theorem pX4_count_94 (h : xkd S a = 5) : xX E mX4_count 94 [l0, l1] (.ref a :: st) S V Q ↔ xX E mX4_count 97 [l0, l1] (va_rf (xrf S a 0) :: st) S V Q := xi_getR (show decode cX4_count 94 = .ok (.getfield 10, 3) by decide +kernel) xft_4_10 rfl h
theorem pX4_count_97  (h : xkd S a = 3) (hc : xcat st ≤ 8) : xX E mX4_count 97 [l0, l1] (.ref a :: st) S V Q ↔ xC E mX2_isStuck [.ref a] S V (fun v S V => xX E mX4_count 100 [l0, l1] (v.toList ++ st) S V Q) := xi_callV (as := []) (show decode cX4_count 97 = .ok (.invokevirtual 168, 3) by decide +kernel) xct_4_168 rfl rfl (by decide) (Nat.le_of_ble_eq_true rfl) rfl h hc
theorem pX4_count_100 : xX E mX4_count 100 [l0, l1] (.int x :: st) S V Q ↔ if x = nI 0 then xX E mX4_count 107 [l0, l1] st S V Q else xX E mX4_count 103 [l0, l1] st S V Q := xi_if (show decode cX4_count 100 = .ok (.ifCond .eq 7, 3) by decide +kernel) (by decide) xcb_eq
theorem pX4_count_103 : xX E mX4_count 103 [l0, l1] st S V Q ↔ xX E mX4_count 104 [l0, l1] (.int (nI 1) :: st) S V Q := xi (show decode cX4_count 103 = .ok (.iconst 1, 1) by decide +kernel) rfl
theorem pX4_count_104 : xX E mX4_count 104 [l0, l1] st S V Q ↔ xX E mX4_count 108 [l0, l1] st S V Q := xi_goto (show decode cX4_count 104 = .ok (.goto 4, 3) by decide +kernel) (by decide)
theorem pX4_count_107 : xX E mX4_count 107 [l0, l1] st S V Q ↔ xX E mX4_count 108 [l0, l1] (.int (nI 0) :: st) S V Q := xi (show decode cX4_count 107 = .ok (.iconst 0, 1) by decide +kernel) rfl
theorem pX4_count_108 : xX E mX4_count 108 [l0, l1] [.int x] S V Q ↔ Q (some (.int x)) S V := xi_retI (show decode cX4_count 108 = .ok (.ireturn, 1) by decide +kernel) rfl
theorem pX4_count_109 : xX E mX4_count 109 [some (.ref a), l1] st S V Q ↔ xX E mX4_count 110 [some (.ref a), l1] (.ref a :: st) S V Q := xi (show decode cX4_count 109 = .ok (.aload_n 0, 1) by decide +kernel) rfl
theorem pX4_count_110 (h : xkd S a = 5) : xX E mX4_count 110 [l0, l1] (.ref a :: st) S V Q ↔ xX E mX4_count 113 [l0, l1] (va_rf (xrf S a 0) :: st) S V Q := xi_getR (show decode cX4_count 110 = .ok (.getfield 10, 3) by decide +kernel) xft_4_10 rfl h
theorem pX4_count_113 (h : xkd S a = 3) : xX E mX4_count 113 [l0, l1] (.ref a :: st) S V Q ↔ xX E mX4_count 116 [l0, l1] (.int (V a 4) :: st) S V Q := xi_getI (show decode cX4_count 113 = .ok (.getfield 172, 3) by decide +kernel) xft_4_172 rfl h
theorem pX4_count_116 : xX E mX4_count 116 [l0, l1] [.int x] S V Q ↔ Q (some (.int x)) S V := xi_retI (show decode cX4_count 116 = .ok (.ireturn, 1) by decide +kernel) rfl
theorem pX4_count_117 : xX E mX4_count 117 [some (.ref a), l1] st S V Q ↔ xX E mX4_count 118 [some (.ref a), l1] (.ref a :: st) S V Q := xi (show decode cX4_count 117 = .ok (.aload_n 0, 1) by decide +kernel) rfl
theorem pX4_count_118 (h : xkd S a = 5) : xX E mX4_count 118 [l0, l1] (.ref a :: st) S V Q ↔ xX E mX4_count 121 [l0, l1] (va_rf (xrf S a 0) :: st) S V Q := xi_getR (show decode cX4_count 118 = .ok (.getfield 10, 3) by decide +kernel) xft_4_10 rfl h
theorem pX4_count_121 (h : xkd S a = 3) : xX E mX4_count 121 [l0, l1] (.ref a :: st) S V Q ↔ xX E mX4_count 124 [l0, l1] (.int (V a 5) :: st) S V Q := xi_getI (show decode cX4_count 121 = .ok (.getfield 175, 3) by decide +kernel) xft_4_175 rfl h
theorem pX4_count_124 : xX E mX4_count 124 [l0, l1] [.int x] S V Q ↔ Q (some (.int x)) S V := xi_retI (show decode cX4_count 124 = .ok (.ireturn, 1) by decide +kernel) rfl
theorem pX4_count_125 : xX E mX4_count 125 [some (.ref a), l1] st S V Q ↔ xX E mX4_count 126 [some (.ref a), l1] (.ref a :: st) S V Q := xi (show decode cX4_count 125 = .ok (.aload_n 0, 1) by decide +kernel) rfl
theorem pX4_count_126  (h : xkd S a = 5) (hc : xcat st ≤ 8) : xX E mX4_count 126 [l0, l1] (.ref a :: st) S V Q ↔ xC E mX4_tryNow [.ref a] S V (fun v S V => xX E mX4_count 129 [l0, l1] (v.toList ++ st) S V Q) := xi_callV (as := []) (show decode cX4_count 126 = .ok (.invokevirtual 178, 3) by decide +kernel) xct_4_178 rfl rfl (by decide) (Nat.le_of_ble_eq_true rfl) rfl h hc
theorem pX4_count_129  (h : xkd S a = 3) (hc : xcat st ≤ 8) : xX E mX4_count 129 [l0, l1] (.ref a :: st) S V Q ↔ xC E mX2_passSlot [.ref a] S V (fun v S V => xX E mX4_count 132 [l0, l1] (v.toList ++ st) S V Q) := xi_callV (as := []) (show decode cX4_count 129 = .ok (.invokevirtual 182, 3) by decide +kernel) xct_4_182 rfl rfl (by decide) (Nat.le_of_ble_eq_true rfl) rfl h hc
theorem pX4_count_132 : xX E mX4_count 132 [l0, l1] [.int x] S V Q ↔ Q (some (.int x)) S V := xi_retI (show decode cX4_count 132 = .ok (.ireturn, 1) by decide +kernel) rfl
theorem pX4_count_133 : xX E mX4_count 133 [some (.ref a), l1] st S V Q ↔ xX E mX4_count 134 [some (.ref a), l1] (.ref a :: st) S V Q := xi (show decode cX4_count 133 = .ok (.aload_n 0, 1) by decide +kernel) rfl
theorem pX4_count_134 (h : xkd S a = 5) : xX E mX4_count 134 [l0, l1] (.ref a :: st) S V Q ↔ xX E mX4_count 137 [l0, l1] (va_rf (xrf S a 5) :: st) S V Q := xi_getR (show decode cX4_count 134 = .ok (.getfield 37, 3) by decide +kernel) xft_4_37 rfl h
theorem pX4_count_137 (h : xkd S a = 4) : xX E mX4_count 137 [l0, l1] (.ref a :: st) S V Q ↔ xX E mX4_count 140 [l0, l1] (.int (V a 1) :: st) S V Q := xi_getI (show decode cX4_count 137 = .ok (.getfield 78, 3) by decide +kernel) xft_4_78 rfl h
theorem pX4_count_140 : xX E mX4_count 140 [l0, l1] [.int x] S V Q ↔ Q (some (.int x)) S V := xi_retI (show decode cX4_count 140 = .ok (.ireturn, 1) by decide +kernel) rfl
theorem pX4_count_141 : xX E mX4_count 141 [some (.ref a), l1] st S V Q ↔ xX E mX4_count 142 [some (.ref a), l1] (.ref a :: st) S V Q := xi (show decode cX4_count 141 = .ok (.aload_n 0, 1) by decide +kernel) rfl
theorem pX4_count_142 (h : xkd S a = 5) : xX E mX4_count 142 [l0, l1] (.ref a :: st) S V Q ↔ xX E mX4_count 145 [l0, l1] (va_rf (xrf S a 2) :: st) S V Q := xi_getR (show decode cX4_count 142 = .ok (.getfield 22, 3) by decide +kernel) xft_4_22 rfl h
theorem pX4_count_145 (h : xkd S a = 2) : xX E mX4_count 145 [l0, l1] (.ref a :: st) S V Q ↔ xX E mX4_count 148 [l0, l1] (.int (V a 2) :: st) S V Q := xi_getI (show decode cX4_count 145 = .ok (.getfield 185, 3) by decide +kernel) xft_4_185 rfl h
theorem pX4_count_148 : xX E mX4_count 148 [l0, l1] [.int x] S V Q ↔ Q (some (.int x)) S V := xi_retI (show decode cX4_count 148 = .ok (.ireturn, 1) by decide +kernel) rfl
theorem pX4_count_149 : xX E mX4_count 149 [l0, l1] st S V Q ↔ xX E mX4_count 151 [l0, l1] (.int (-2) :: st) S V Q := xi (show decode cX4_count 149 = .ok (.bipush (-2), 2) by decide +kernel) rfl
theorem pX4_count_151 : xX E mX4_count 151 [l0, l1] [.int x] S V Q ↔ Q (some (.int x)) S V := xi_retI (show decode cX4_count 151 = .ok (.ireturn, 1) by decide +kernel) rfl
-- TurnSlots.run()I
theorem pX4_run_0 : xX E mX4_run 0 [some (.ref a)] st S V Q ↔ xX E mX4_run 1 [some (.ref a)] (.ref a :: st) S V Q := xi (show decode cX4_run 0 = .ok (.aload_n 0, 1) by decide +kernel) rfl
theorem pX4_run_1 (h : xkd S a = 5) : xX E mX4_run 1 [l0] (.ref a :: st) S V Q ↔ xX E mX4_run 4 [l0] (va_rf (xrf S a 0) :: st) S V Q := xi_getR (show decode cX4_run 1 = .ok (.getfield 10, 3) by decide +kernel) xft_4_10 rfl h
theorem pX4_run_4 (h : xkd S a = 3) : xX E mX4_run 4 [l0] (.ref a :: st) S V Q ↔ xX E mX4_run 7 [l0] (.int (V a 3) :: st) S V Q := xi_getI (show decode cX4_run 4 = .ok (.getfield 104, 3) by decide +kernel) xft_4_104 rfl h
theorem pX4_run_7 : xX E mX4_run 7 [l0] st S V Q ↔ xX E mX4_run 9 [l0] (.int (nI 99000) :: st) S V Q := xi_ldc (show decode cX4_run 7 = .ok (.ldc 112, 2) by decide +kernel) xit_4_112
theorem pX4_run_9 : xX E mX4_run 9 [l0] (.int y :: .int x :: st) S V Q ↔ if x ≤ y then xX E mX4_run 15 [l0] st S V Q else xX E mX4_run 12 [l0] st S V Q := xi_icmp (show decode cX4_run 9 = .ok (.if_icmp .le 6, 3) by decide +kernel) (by decide) xcb_le
theorem pX4_run_12 : xX E mX4_run 12 [l0] st S V Q ↔ xX E mX4_run 14 [l0] (.int (-4) :: st) S V Q := xi (show decode cX4_run 12 = .ok (.bipush (-4), 2) by decide +kernel) rfl
theorem pX4_run_14 : xX E mX4_run 14 [l0] [.int x] S V Q ↔ Q (some (.int x)) S V := xi_retI (show decode cX4_run 14 = .ok (.ireturn, 1) by decide +kernel) rfl
theorem pX4_run_15 : xX E mX4_run 15 [some (.ref a)] st S V Q ↔ xX E mX4_run 16 [some (.ref a)] (.ref a :: st) S V Q := xi (show decode cX4_run 15 = .ok (.aload_n 0, 1) by decide +kernel) rfl
theorem pX4_run_16 (h : xkd S a = 5) : xX E mX4_run 16 [l0] (.ref a :: st) S V Q ↔ xX E mX4_run 19 [l0] (va_rf (xrf S a 2) :: st) S V Q := xi_getR (show decode cX4_run 16 = .ok (.getfield 22, 3) by decide +kernel) xft_4_22 rfl h
theorem pX4_run_19 : xX E mX4_run 19 [some (.ref a)] st S V Q ↔ xX E mX4_run 20 [some (.ref a)] (.ref a :: st) S V Q := xi (show decode cX4_run 19 = .ok (.aload_n 0, 1) by decide +kernel) rfl
theorem pX4_run_20 (h : xkd S a = 5) : xX E mX4_run 20 [l0] (.ref a :: st) S V Q ↔ xX E mX4_run 23 [l0] (va_rf (xrf S a 0) :: st) S V Q := xi_getR (show decode cX4_run 20 = .ok (.getfield 10, 3) by decide +kernel) xft_4_10 rfl h
theorem pX4_run_23 {a1 : Nat} (h : xkd S a = 2) (hc : xcat st ≤ 8) : xX E mX4_run 23 [l0] (.ref a1 :: .ref a :: st) S V Q ↔ xC E mX1_record [.ref a, .ref a1] S V (fun v S V => xX E mX4_run 26 [l0] (v.toList ++ st) S V Q) := xi_callV (as := [.ref a1]) (show decode cX4_run 23 = .ok (.invokevirtual 59, 3) by decide +kernel) xct_4_59 rfl rfl (by decide) (Nat.le_of_ble_eq_true rfl) rfl h hc
theorem pX4_run_26 : xX E mX4_run 26 [some (.ref a)] st S V Q ↔ xX E mX4_run 27 [some (.ref a)] (.ref a :: st) S V Q := xi (show decode cX4_run 26 = .ok (.aload_n 0, 1) by decide +kernel) rfl
theorem pX4_run_27 (h : xkd S a = 5) : xX E mX4_run 27 [l0] (.ref a :: st) S V Q ↔ xX E mX4_run 30 [l0] (va_rf (xrf S a 0) :: st) S V Q := xi_getR (show decode cX4_run 27 = .ok (.getfield 10, 3) by decide +kernel) xft_4_10 rfl h
theorem pX4_run_30 : xX E mX4_run 30 [l0] st S V Q ↔ xX E mX4_run 33 [l0] (.int (nI 255) :: st) S V Q := xi (show decode cX4_run 30 = .ok (.sipush 255, 3) by decide +kernel) rfl
theorem pX4_run_33 {x0 : Int32} (h : xkd S a = 3) (hc : xcat st ≤ 8) : xX E mX4_run 33 [l0] (.int x0 :: .ref a :: st) S V Q ↔ xC E mX2_passUntilDone [.ref a, .int x0] S V (fun v S V => xX E mX4_run 36 [l0] (v.toList ++ st) S V Q) := xi_callV (as := [.int x0]) (show decode cX4_run 33 = .ok (.invokevirtual 113, 3) by decide +kernel) xct_4_113 rfl rfl (by decide) (Nat.le_of_ble_eq_true rfl) rfl h hc
theorem pX4_run_36 : xX E mX4_run 36 [l0] [.int x] S V Q ↔ Q (some (.int x)) S V := xi_retI (show decode cX4_run 36 = .ok (.ireturn, 1) by decide +kernel) rfl
-- TurnSlots.slotsLeft()I
theorem pX4_slotsLeft_0 : xX E mX4_slotsLeft 0 [some (.ref a), l1] st S V Q ↔ xX E mX4_slotsLeft 1 [some (.ref a), l1] (.ref a :: st) S V Q := xi (show decode cX4_slotsLeft 0 = .ok (.aload_n 0, 1) by decide +kernel) rfl
theorem pX4_slotsLeft_1  (h : xkd S a = 5) (hc : xcat st ≤ 8) : xX E mX4_slotsLeft 1 [l0, l1] (.ref a :: st) S V Q ↔ xC E mX4_tryNow [.ref a] S V (fun v S V => xX E mX4_slotsLeft 4 [l0, l1] (v.toList ++ st) S V Q) := xi_callV (as := []) (show decode cX4_slotsLeft 1 = .ok (.invokevirtual 178, 3) by decide +kernel) xct_4_178 rfl rfl (by decide) (Nat.le_of_ble_eq_true rfl) rfl h hc
theorem pX4_slotsLeft_4 : xX E mX4_slotsLeft 4 [l0, l1] st S V Q ↔ xX E mX4_slotsLeft 7 [l0, l1] (.int (nI 255) :: st) S V Q := xi (show decode cX4_slotsLeft 4 = .ok (.sipush 255, 3) by decide +kernel) rfl
theorem pX4_slotsLeft_7 {x0 : Int32} (h : xkd S a = 3) (hc : xcat st ≤ 8) : xX E mX4_slotsLeft 7 [l0, l1] (.int x0 :: .ref a :: st) S V Q ↔ xC E mX2_passUntilDone [.ref a, .int x0] S V (fun v S V => xX E mX4_slotsLeft 10 [l0, l1] (v.toList ++ st) S V Q) := xi_callV (as := [.int x0]) (show decode cX4_slotsLeft 7 = .ok (.invokevirtual 113, 3) by decide +kernel) xct_4_113 rfl rfl (by decide) (Nat.le_of_ble_eq_true rfl) rfl h hc
theorem pX4_slotsLeft_10 (h : xnl l0 = true) : xX E mX4_slotsLeft 10 [l0, l1] (.int x :: st) S V Q ↔ xX E mX4_slotsLeft 11 [l0, some (.int x)] st S V Q := xi_st1 (j := 0) (v := .int x) (show decode cX4_slotsLeft 10 = .ok (.istore_n 1, 1) by decide +kernel) rfl h rfl rfl
theorem pX4_slotsLeft_11 : xX E mX4_slotsLeft 11 [some (.ref a), l1] st S V Q ↔ xX E mX4_slotsLeft 12 [some (.ref a), l1] (.ref a :: st) S V Q := xi (show decode cX4_slotsLeft 11 = .ok (.aload_n 0, 1) by decide +kernel) rfl
theorem pX4_slotsLeft_12 (h : xkd S a = 5) : xX E mX4_slotsLeft 12 [l0, l1] (.ref a :: st) S V Q ↔ xX E mX4_slotsLeft 15 [l0, l1] (va_rf (xrf S a 1) :: st) S V Q := xi_getR (show decode cX4_slotsLeft 12 = .ok (.getfield 16, 3) by decide +kernel) xft_4_16 rfl h
theorem pX4_slotsLeft_15 : xX E mX4_slotsLeft 15 [l0, l1] st S V Q ↔ xX E mX4_slotsLeft 18 [l0, l1] (.int (nI 255) :: st) S V Q := xi (show decode cX4_slotsLeft 15 = .ok (.sipush 255, 3) by decide +kernel) rfl
theorem pX4_slotsLeft_18 {x0 : Int32} (h : xkd S a = 3) (hc : xcat st ≤ 8) : xX E mX4_slotsLeft 18 [l0, l1] (.int x0 :: .ref a :: st) S V Q ↔ xC E mX2_areDone [.ref a, .int x0] S V (fun v S V => xX E mX4_slotsLeft 21 [l0, l1] (v.toList ++ st) S V Q) := xi_callV (as := [.int x0]) (show decode cX4_slotsLeft 18 = .ok (.invokevirtual 188, 3) by decide +kernel) xct_4_188 rfl rfl (by decide) (Nat.le_of_ble_eq_true rfl) rfl h hc
theorem pX4_slotsLeft_21 : xX E mX4_slotsLeft 21 [l0, l1] (.int x :: st) S V Q ↔ if x = nI 0 then xX E mX4_slotsLeft 28 [l0, l1] st S V Q else xX E mX4_slotsLeft 24 [l0, l1] st S V Q := xi_if (show decode cX4_slotsLeft 21 = .ok (.ifCond .eq 7, 3) by decide +kernel) (by decide) xcb_eq
theorem pX4_slotsLeft_24 : xX E mX4_slotsLeft 24 [l0, some (.int x)] st S V Q ↔ xX E mX4_slotsLeft 25 [l0, some (.int x)] (.int x :: st) S V Q := xi (show decode cX4_slotsLeft 24 = .ok (.iload_n 1, 1) by decide +kernel) rfl
theorem pX4_slotsLeft_25 : xX E mX4_slotsLeft 25 [l0, l1] st S V Q ↔ xX E mX4_slotsLeft 30 [l0, l1] st S V Q := xi_goto (show decode cX4_slotsLeft 25 = .ok (.goto 5, 3) by decide +kernel) (by decide)
theorem pX4_slotsLeft_28 : xX E mX4_slotsLeft 28 [l0, l1] st S V Q ↔ xX E mX4_slotsLeft 30 [l0, l1] (.int (-6) :: st) S V Q := xi (show decode cX4_slotsLeft 28 = .ok (.bipush (-6), 2) by decide +kernel) rfl
theorem pX4_slotsLeft_30 : xX E mX4_slotsLeft 30 [l0, l1] [.int x] S V Q ↔ Q (some (.int x)) S V := xi_retI (show decode cX4_slotsLeft 30 = .ok (.ireturn, 1) by decide +kernel) rfl
-- TurnSlots.step(I)I
theorem pX4_step_0 : xX E mX4_step 0 [l0, some (.int x)] st S V Q ↔ xX E mX4_step 1 [l0, some (.int x)] (.int x :: st) S V Q := xi (show decode cX4_step 0 = .ok (.iload_n 1, 1) by decide +kernel) rfl
theorem pX4_step_1 {x0 : Int32} (hc : xcat st ≤ 8) : xX E mX4_step 1 [l0, l1] (.int x0 :: st) S V Q ↔ xC E mX4_isStep [.int x0] S V (fun v S V => xX E mX4_step 4 [l0, l1] (v.toList ++ st) S V Q) := xi_callS (as := [.int x0]) (show decode cX4_step 1 = .ok (.invokestatic 101, 3) by decide +kernel) xct_4_101 (by decide) rfl rfl (by decide) (Nat.le_of_ble_eq_true rfl) hc
theorem pX4_step_4 : xX E mX4_step 4 [l0, l1] (.int x :: st) S V Q ↔ if ¬ x = nI 0 then xX E mX4_step 10 [l0, l1] st S V Q else xX E mX4_step 7 [l0, l1] st S V Q := xi_if (show decode cX4_step 4 = .ok (.ifCond .ne 6, 3) by decide +kernel) (by decide) xcb_ne
theorem pX4_step_7 : xX E mX4_step 7 [l0, l1] st S V Q ↔ xX E mX4_step 9 [l0, l1] (.int (-2) :: st) S V Q := xi (show decode cX4_step 7 = .ok (.bipush (-2), 2) by decide +kernel) rfl
theorem pX4_step_9 : xX E mX4_step 9 [l0, l1] [.int x] S V Q ↔ Q (some (.int x)) S V := xi_retI (show decode cX4_step 9 = .ok (.ireturn, 1) by decide +kernel) rfl
theorem pX4_step_10 : xX E mX4_step 10 [some (.ref a), l1] st S V Q ↔ xX E mX4_step 11 [some (.ref a), l1] (.ref a :: st) S V Q := xi (show decode cX4_step 10 = .ok (.aload_n 0, 1) by decide +kernel) rfl
theorem pX4_step_11 (h : xkd S a = 5) : xX E mX4_step 11 [l0, l1] (.ref a :: st) S V Q ↔ xX E mX4_step 14 [l0, l1] (va_rf (xrf S a 0) :: st) S V Q := xi_getR (show decode cX4_step 11 = .ok (.getfield 10, 3) by decide +kernel) xft_4_10 rfl h
theorem pX4_step_14 (h : xkd S a = 3) : xX E mX4_step 14 [l0, l1] (.ref a :: st) S V Q ↔ xX E mX4_step 17 [l0, l1] (.int (V a 3) :: st) S V Q := xi_getI (show decode cX4_step 14 = .ok (.getfield 104, 3) by decide +kernel) xft_4_104 rfl h
theorem pX4_step_17 : xX E mX4_step 17 [l0, some (.int x)] st S V Q ↔ xX E mX4_step 18 [l0, some (.int x)] (.int x :: st) S V Q := xi (show decode cX4_step 17 = .ok (.iload_n 1, 1) by decide +kernel) rfl
theorem pX4_step_18 : xX E mX4_step 18 [l0, l1] (.int y :: .int x :: st) S V Q ↔ xX E mX4_step 19 [l0, l1] (.int (x + y) :: st) S V Q := xi (show decode cX4_step 18 = .ok (.iadd, 1) by decide +kernel) rfl
theorem pX4_step_19 : xX E mX4_step 19 [l0, l1] st S V Q ↔ xX E mX4_step 21 [l0, l1] (.int (nI 100000) :: st) S V Q := xi_ldc (show decode cX4_step 19 = .ok (.ldc 107, 2) by decide +kernel) xit_4_107
theorem pX4_step_21 : xX E mX4_step 21 [l0, l1] (.int y :: .int x :: st) S V Q ↔ if x ≤ y then xX E mX4_step 27 [l0, l1] st S V Q else xX E mX4_step 24 [l0, l1] st S V Q := xi_icmp (show decode cX4_step 21 = .ok (.if_icmp .le 6, 3) by decide +kernel) (by decide) xcb_le
theorem pX4_step_24 : xX E mX4_step 24 [l0, l1] st S V Q ↔ xX E mX4_step 26 [l0, l1] (.int (-4) :: st) S V Q := xi (show decode cX4_step 24 = .ok (.bipush (-4), 2) by decide +kernel) rfl
theorem pX4_step_26 : xX E mX4_step 26 [l0, l1] [.int x] S V Q ↔ Q (some (.int x)) S V := xi_retI (show decode cX4_step 26 = .ok (.ireturn, 1) by decide +kernel) rfl
theorem pX4_step_27 : xX E mX4_step 27 [some (.ref a), l1] st S V Q ↔ xX E mX4_step 28 [some (.ref a), l1] (.ref a :: st) S V Q := xi (show decode cX4_step 27 = .ok (.aload_n 0, 1) by decide +kernel) rfl
theorem pX4_step_28 (h : xkd S a = 5) : xX E mX4_step 28 [l0, l1] (.ref a :: st) S V Q ↔ xX E mX4_step 31 [l0, l1] (va_rf (xrf S a 2) :: st) S V Q := xi_getR (show decode cX4_step 28 = .ok (.getfield 22, 3) by decide +kernel) xft_4_22 rfl h
theorem pX4_step_31 : xX E mX4_step 31 [some (.ref a), l1] st S V Q ↔ xX E mX4_step 32 [some (.ref a), l1] (.ref a :: st) S V Q := xi (show decode cX4_step 31 = .ok (.aload_n 0, 1) by decide +kernel) rfl
theorem pX4_step_32 (h : xkd S a = 5) : xX E mX4_step 32 [l0, l1] (.ref a :: st) S V Q ↔ xX E mX4_step 35 [l0, l1] (va_rf (xrf S a 0) :: st) S V Q := xi_getR (show decode cX4_step 32 = .ok (.getfield 10, 3) by decide +kernel) xft_4_10 rfl h
theorem pX4_step_35 {a1 : Nat} (h : xkd S a = 2) (hc : xcat st ≤ 8) : xX E mX4_step 35 [l0, l1] (.ref a1 :: .ref a :: st) S V Q ↔ xC E mX1_record [.ref a, .ref a1] S V (fun v S V => xX E mX4_step 38 [l0, l1] (v.toList ++ st) S V Q) := xi_callV (as := [.ref a1]) (show decode cX4_step 35 = .ok (.invokevirtual 59, 3) by decide +kernel) xct_4_59 rfl rfl (by decide) (Nat.le_of_ble_eq_true rfl) rfl h hc
theorem pX4_step_38 : xX E mX4_step 38 [some (.ref a), l1] st S V Q ↔ xX E mX4_step 39 [some (.ref a), l1] (.ref a :: st) S V Q := xi (show decode cX4_step 38 = .ok (.aload_n 0, 1) by decide +kernel) rfl
theorem pX4_step_39 (h : xkd S a = 5) : xX E mX4_step 39 [l0, l1] (.ref a :: st) S V Q ↔ xX E mX4_step 42 [l0, l1] (va_rf (xrf S a 0) :: st) S V Q := xi_getR (show decode cX4_step 39 = .ok (.getfield 10, 3) by decide +kernel) xft_4_10 rfl h
theorem pX4_step_42 : xX E mX4_step 42 [l0, some (.int x)] st S V Q ↔ xX E mX4_step 43 [l0, some (.int x)] (.int x :: st) S V Q := xi (show decode cX4_step 42 = .ok (.iload_n 1, 1) by decide +kernel) rfl
theorem pX4_step_43 {x0 : Int32} (h : xkd S a = 3) (hc : xcat st ≤ 8) : xX E mX4_step 43 [l0, l1] (.int x0 :: .ref a :: st) S V Q ↔ xC E mX2_passSlots [.ref a, .int x0] S V (fun v S V => xX E mX4_step 46 [l0, l1] (v.toList ++ st) S V Q) := xi_callV (as := [.int x0]) (show decode cX4_step 43 = .ok (.invokevirtual 108, 3) by decide +kernel) xct_4_108 rfl rfl (by decide) (Nat.le_of_ble_eq_true rfl) rfl h hc
theorem pX4_step_46 : xX E mX4_step 46 [l0, l1] [.int x] S V Q ↔ Q (some (.int x)) S V := xi_retI (show decode cX4_step 46 = .ok (.ireturn, 1) by decide +kernel) rfl
end PR
end
section
section PR
variable {E : Nat × Nat × Nat} {S : xSh} {V : xV} {Q : Option Value → xSh → xV → Prop} {st : List Value} {l0 l1 l2 l3 l4 l5 l6 l7 l8 l9 l10 l11 l12 l13 l14 : Option Value} {a b c d e f g : Nat} {x y z : Int32} {u w : Int64} {va vb : Value}
-- TurnSlotsLaw.cell([II)I
theorem pL_cell_0 : xX E mL_cell 0 [l0, some (.int x)] st S V Q ↔ xX E mL_cell 1 [l0, some (.int x)] (.int x :: st) S V Q := xi (show decode cL_cell 0 = .ok (.iload_n 1, 1) by decide +kernel) rfl
theorem pL_cell_1 : xX E mL_cell 1 [some (.ref a), l1] st S V Q ↔ xX E mL_cell 2 [some (.ref a), l1] (.ref a :: st) S V Q := xi (show decode cL_cell 1 = .ok (.aload_n 0, 1) by decide +kernel) rfl
theorem pL_cell_2 (h : (7 ≤ xkd S a ∧ xkd S a ≤ 12) ∨ xkd S a = 14) : xX E mL_cell 2 [l0, l1] (.ref a :: st) S V Q ↔ xX E mL_cell 3 [l0, l1] (.int (nI (xln S a)) :: st) S V Q := xi_alen (show decode cL_cell 2 = .ok (.arraylength, 1) by decide +kernel) h
theorem pL_cell_3 : xX E mL_cell 3 [l0, l1] (.int y :: .int x :: st) S V Q ↔ if y ≤ x then xX E mL_cell 12 [l0, l1] st S V Q else xX E mL_cell 6 [l0, l1] st S V Q := xi_icmp (show decode cL_cell 3 = .ok (.if_icmp .ge 9, 3) by decide +kernel) (by decide) xcb_ge
theorem pL_cell_6 : xX E mL_cell 6 [some (.ref a), l1] st S V Q ↔ xX E mL_cell 7 [some (.ref a), l1] (.ref a :: st) S V Q := xi (show decode cL_cell 6 = .ok (.aload_n 0, 1) by decide +kernel) rfl
theorem pL_cell_7 : xX E mL_cell 7 [l0, some (.int x)] st S V Q ↔ xX E mL_cell 8 [l0, some (.int x)] (.int x :: st) S V Q := xi (show decode cL_cell 7 = .ok (.iload_n 1, 1) by decide +kernel) rfl
theorem pL_cell_8 (h : xkd S a = 7 ∨ xkd S a = 14) (hi : b < xln S a) (hn : xln S a < 2147483648) : xX E mL_cell 8 [l0, l1] (.int (nI b) :: .ref a :: st) S V Q ↔ xX E mL_cell 9 [l0, l1] (.int (V a b) :: st) S V Q := xi_iald (show decode cL_cell 8 = .ok (.iaload, 1) by decide +kernel) h hi hn
theorem pL_cell_9 : xX E mL_cell 9 [l0, l1] st S V Q ↔ xX E mL_cell 24 [l0, l1] st S V Q := xi_goto (show decode cL_cell 9 = .ok (.goto 15, 3) by decide +kernel) (by decide)
theorem pL_cell_12 : xX E mL_cell 12 [l0, l1] st S V Q ↔ xX E mL_cell 15 [l0, l1] (.int (nI 7919) :: st) S V Q := xi (show decode cL_cell 12 = .ok (.sipush 7919, 3) by decide +kernel) rfl
theorem pL_cell_15 : xX E mL_cell 15 [l0, some (.int x)] st S V Q ↔ xX E mL_cell 16 [l0, some (.int x)] (.int x :: st) S V Q := xi (show decode cL_cell 15 = .ok (.iload_n 1, 1) by decide +kernel) rfl
theorem pL_cell_16 : xX E mL_cell 16 [l0, l1] st S V Q ↔ xX E mL_cell 17 [l0, l1] (.int (nI 3) :: st) S V Q := xi (show decode cL_cell 16 = .ok (.iconst 3, 1) by decide +kernel) rfl
theorem pL_cell_17 : xX E mL_cell 17 [l0, l1] (.int y :: .int x :: st) S V Q ↔ xX E mL_cell 18 [l0, l1] (.int (x + y) :: st) S V Q := xi (show decode cL_cell 17 = .ok (.iadd, 1) by decide +kernel) rfl
theorem pL_cell_18 : xX E mL_cell 18 [l0, l1] (.int y :: .int x :: st) S V Q ↔ xX E mL_cell 19 [l0, l1] (.int (x * y) :: st) S V Q := xi (show decode cL_cell 18 = .ok (.imul, 1) by decide +kernel) rfl
theorem pL_cell_19 : xX E mL_cell 19 [l0, some (.int x)] st S V Q ↔ xX E mL_cell 20 [l0, some (.int x)] (.int x :: st) S V Q := xi (show decode cL_cell 19 = .ok (.iload_n 1, 1) by decide +kernel) rfl
theorem pL_cell_20 : xX E mL_cell 20 [l0, l1] st S V Q ↔ xX E mL_cell 22 [l0, l1] (.int (nI 11) :: st) S V Q := xi (show decode cL_cell 20 = .ok (.bipush 11, 2) by decide +kernel) rfl
theorem pL_cell_22 : xX E mL_cell 22 [l0, l1] (.int y :: .int x :: st) S V Q ↔ xX E mL_cell 23 [l0, l1] (.int (x + y) :: st) S V Q := xi (show decode cL_cell 22 = .ok (.iadd, 1) by decide +kernel) rfl
theorem pL_cell_23 : xX E mL_cell 23 [l0, l1] (.int y :: .int x :: st) S V Q ↔ xX E mL_cell 24 [l0, l1] (.int (x * y) :: st) S V Q := xi (show decode cL_cell 23 = .ok (.imul, 1) by decide +kernel) rfl
theorem pL_cell_24 : xX E mL_cell 24 [l0, l1] [.int x] S V Q ↔ Q (some (.int x)) S V := xi_retI (show decode cL_cell 24 = .ok (.ireturn, 1) by decide +kernel) rfl
-- TurnSlotsLaw.low(II)I
theorem pL_low_0 : xX E mL_low 0 [some (.int x), l1] st S V Q ↔ xX E mL_low 1 [some (.int x), l1] (.int x :: st) S V Q := xi (show decode cL_low 0 = .ok (.iload_n 0, 1) by decide +kernel) rfl
theorem pL_low_1 : xX E mL_low 1 [l0, l1] st S V Q ↔ xX E mL_low 3 [l0, l1] (.int (nI 2147483647) :: st) S V Q := xi_ldc (show decode cL_low 1 = .ok (.ldc 7, 2) by decide +kernel) xit_6_7
theorem pL_low_3 : xX E mL_low 3 [l0, l1] (.int y :: .int x :: st) S V Q ↔ xX E mL_low 4 [l0, l1] (.int (x &&& y) :: st) S V Q := xi (show decode cL_low 3 = .ok (.iand, 1) by decide +kernel) rfl
theorem pL_low_4 : xX E mL_low 4 [l0, some (.int x)] st S V Q ↔ xX E mL_low 5 [l0, some (.int x)] (.int x :: st) S V Q := xi (show decode cL_low 4 = .ok (.iload_n 1, 1) by decide +kernel) rfl
theorem pL_low_5i (h : ¬ y = 0) : xX E mL_low 5 [l0, l1] (.int y :: .int x :: st) S V Q ↔ xX E mL_low 6 [l0, l1] (.int (x - x / y * y) :: st) S V Q := xi_remG (show decode cL_low 5 = .ok (.irem, 1) by decide +kernel) h
theorem pL_low_5 (h0 : 0 < b) (ha : a < 2147483648) (hb : b < 2147483648) : xX E mL_low 5 [l0, l1] (.int (nI b) :: .int (nI a) :: st) S V Q ↔ xX E mL_low 6 [l0, l1] (.int (nI (a % b)) :: st) S V Q := xi_rem (show decode cL_low 5 = .ok (.irem, 1) by decide +kernel) h0 ha hb
theorem pL_low_6 : xX E mL_low 6 [l0, l1] [.int x] S V Q ↔ Q (some (.int x)) S V := xi_retI (show decode cL_low 6 = .ok (.ireturn, 1) by decide +kernel) rfl
-- TurnSlotsLaw.addsUp(LTurnSlots;)Z
theorem pL_addsUp_0 : xX E mL_addsUp 0 [some (.ref a), l1, l2, l3, l4, l5, l6, l7, l8, l9, l10, l11, l12, l13, l14] st S V Q ↔ xX E mL_addsUp 1 [some (.ref a), l1, l2, l3, l4, l5, l6, l7, l8, l9, l10, l11, l12, l13, l14] (.ref a :: st) S V Q := xi (show decode cL_addsUp 0 = .ok (.aload_n 0, 1) by decide +kernel) rfl
theorem pL_addsUp_1 : xX E mL_addsUp 1 [l0, l1, l2, l3, l4, l5, l6, l7, l8, l9, l10, l11, l12, l13, l14] st S V Q ↔ xX E mL_addsUp 2 [l0, l1, l2, l3, l4, l5, l6, l7, l8, l9, l10, l11, l12, l13, l14] (.int (nI 0) :: st) S V Q := xi (show decode cL_addsUp 1 = .ok (.iconst 0, 1) by decide +kernel) rfl
theorem pL_addsUp_2 {x0 : Int32} (h : xkd S a = 5) (hc : xcat st ≤ 8) : xX E mL_addsUp 2 [l0, l1, l2, l3, l4, l5, l6, l7, l8, l9, l10, l11, l12, l13, l14] (.int x0 :: .ref a :: st) S V Q ↔ xC E mX4_count [.ref a, .int x0] S V (fun v S V => xX E mL_addsUp 5 [l0, l1, l2, l3, l4, l5, l6, l7, l8, l9, l10, l11, l12, l13, l14] (v.toList ++ st) S V Q) := xi_callV (as := [.int x0]) (show decode cL_addsUp 2 = .ok (.invokevirtual 12, 3) by decide +kernel) xct_6_12 rfl rfl (by decide) (Nat.le_of_ble_eq_true rfl) rfl h hc
theorem pL_addsUp_5 (h : xnl l0 = true) : xX E mL_addsUp 5 [l0, l1, l2, l3, l4, l5, l6, l7, l8, l9, l10, l11, l12, l13, l14] (.int x :: st) S V Q ↔ xX E mL_addsUp 6 [l0, some (.int x), l2, l3, l4, l5, l6, l7, l8, l9, l10, l11, l12, l13, l14] st S V Q := xi_st1 (j := 0) (v := .int x) (show decode cL_addsUp 5 = .ok (.istore_n 1, 1) by decide +kernel) rfl h rfl rfl
theorem pL_addsUp_6 : xX E mL_addsUp 6 [l0, l1, l2, l3, l4, l5, l6, l7, l8, l9, l10, l11, l12, l13, l14] st S V Q ↔ xX E mL_addsUp 7 [l0, l1, l2, l3, l4, l5, l6, l7, l8, l9, l10, l11, l12, l13, l14] (.int (nI 0) :: st) S V Q := xi (show decode cL_addsUp 6 = .ok (.iconst 0, 1) by decide +kernel) rfl
theorem pL_addsUp_7 (h : xnl l1 = true) : xX E mL_addsUp 7 [l0, l1, l2, l3, l4, l5, l6, l7, l8, l9, l10, l11, l12, l13, l14] (.int x :: st) S V Q ↔ xX E mL_addsUp 8 [l0, l1, some (.int x), l3, l4, l5, l6, l7, l8, l9, l10, l11, l12, l13, l14] st S V Q := xi_st1 (j := 1) (v := .int x) (show decode cL_addsUp 7 = .ok (.istore_n 2, 1) by decide +kernel) rfl h rfl rfl
theorem pL_addsUp_8 : xX E mL_addsUp 8 [l0, l1, l2, l3, l4, l5, l6, l7, l8, l9, l10, l11, l12, l13, l14] st S V Q ↔ xX E mL_addsUp 9 [l0, l1, l2, l3, l4, l5, l6, l7, l8, l9, l10, l11, l12, l13, l14] (.int (nI 0) :: st) S V Q := xi (show decode cL_addsUp 8 = .ok (.iconst 0, 1) by decide +kernel) rfl
theorem pL_addsUp_9 (h : xnl l2 = true) : xX E mL_addsUp 9 [l0, l1, l2, l3, l4, l5, l6, l7, l8, l9, l10, l11, l12, l13, l14] (.int x :: st) S V Q ↔ xX E mL_addsUp 10 [l0, l1, l2, some (.int x), l4, l5, l6, l7, l8, l9, l10, l11, l12, l13, l14] st S V Q := xi_st1 (j := 2) (v := .int x) (show decode cL_addsUp 9 = .ok (.istore_n 3, 1) by decide +kernel) rfl h rfl rfl
theorem pL_addsUp_10 : xX E mL_addsUp 10 [l0, l1, l2, l3, l4, l5, l6, l7, l8, l9, l10, l11, l12, l13, l14] st S V Q ↔ xX E mL_addsUp 11 [l0, l1, l2, l3, l4, l5, l6, l7, l8, l9, l10, l11, l12, l13, l14] (.int (nI 0) :: st) S V Q := xi (show decode cL_addsUp 10 = .ok (.iconst 0, 1) by decide +kernel) rfl
theorem pL_addsUp_11 (h : xnl l3 = true) : xX E mL_addsUp 11 [l0, l1, l2, l3, l4, l5, l6, l7, l8, l9, l10, l11, l12, l13, l14] (.int x :: st) S V Q ↔ xX E mL_addsUp 13 [l0, l1, l2, l3, some (.int x), l5, l6, l7, l8, l9, l10, l11, l12, l13, l14] st S V Q := xi_st1 (j := 3) (v := .int x) (show decode cL_addsUp 11 = .ok (.istore 4, 2) by decide +kernel) rfl h rfl rfl
theorem pL_addsUp_13 : xX E mL_addsUp 13 [l0, l1, l2, l3, l4, l5, l6, l7, l8, l9, l10, l11, l12, l13, l14] st S V Q ↔ xX E mL_addsUp 14 [l0, l1, l2, l3, l4, l5, l6, l7, l8, l9, l10, l11, l12, l13, l14] (.int (nI 0) :: st) S V Q := xi (show decode cL_addsUp 13 = .ok (.iconst 0, 1) by decide +kernel) rfl
theorem pL_addsUp_14 (h : xnl l4 = true) : xX E mL_addsUp 14 [l0, l1, l2, l3, l4, l5, l6, l7, l8, l9, l10, l11, l12, l13, l14] (.int x :: st) S V Q ↔ xX E mL_addsUp 16 [l0, l1, l2, l3, l4, some (.int x), l6, l7, l8, l9, l10, l11, l12, l13, l14] st S V Q := xi_st1 (j := 4) (v := .int x) (show decode cL_addsUp 14 = .ok (.istore 5, 2) by decide +kernel) rfl h rfl rfl
theorem pL_addsUp_16 : xX E mL_addsUp 16 [l0, l1, l2, l3, l4, l5, l6, l7, l8, l9, l10, l11, l12, l13, l14] st S V Q ↔ xX E mL_addsUp 17 [l0, l1, l2, l3, l4, l5, l6, l7, l8, l9, l10, l11, l12, l13, l14] (.int (nI 0) :: st) S V Q := xi (show decode cL_addsUp 16 = .ok (.iconst 0, 1) by decide +kernel) rfl
theorem pL_addsUp_17 (h : xnl l5 = true) : xX E mL_addsUp 17 [l0, l1, l2, l3, l4, l5, l6, l7, l8, l9, l10, l11, l12, l13, l14] (.int x :: st) S V Q ↔ xX E mL_addsUp 19 [l0, l1, l2, l3, l4, l5, some (.int x), l7, l8, l9, l10, l11, l12, l13, l14] st S V Q := xi_st1 (j := 5) (v := .int x) (show decode cL_addsUp 17 = .ok (.istore 6, 2) by decide +kernel) rfl h rfl rfl
theorem pL_addsUp_19 : xX E mL_addsUp 19 [l0, l1, l2, l3, l4, l5, l6, l7, l8, l9, l10, l11, l12, l13, l14] st S V Q ↔ xX E mL_addsUp 20 [l0, l1, l2, l3, l4, l5, l6, l7, l8, l9, l10, l11, l12, l13, l14] (.int (nI 0) :: st) S V Q := xi (show decode cL_addsUp 19 = .ok (.iconst 0, 1) by decide +kernel) rfl
theorem pL_addsUp_20 (h : xnl l6 = true) : xX E mL_addsUp 20 [l0, l1, l2, l3, l4, l5, l6, l7, l8, l9, l10, l11, l12, l13, l14] (.int x :: st) S V Q ↔ xX E mL_addsUp 22 [l0, l1, l2, l3, l4, l5, l6, some (.int x), l8, l9, l10, l11, l12, l13, l14] st S V Q := xi_st1 (j := 6) (v := .int x) (show decode cL_addsUp 20 = .ok (.istore 7, 2) by decide +kernel) rfl h rfl rfl
theorem pL_addsUp_22 : xX E mL_addsUp 22 [l0, l1, l2, l3, l4, l5, l6, l7, l8, l9, l10, l11, l12, l13, l14] st S V Q ↔ xX E mL_addsUp 23 [l0, l1, l2, l3, l4, l5, l6, l7, l8, l9, l10, l11, l12, l13, l14] (.int (nI 0) :: st) S V Q := xi (show decode cL_addsUp 22 = .ok (.iconst 0, 1) by decide +kernel) rfl
theorem pL_addsUp_23 (h : xnl l7 = true) : xX E mL_addsUp 23 [l0, l1, l2, l3, l4, l5, l6, l7, l8, l9, l10, l11, l12, l13, l14] (.int x :: st) S V Q ↔ xX E mL_addsUp 25 [l0, l1, l2, l3, l4, l5, l6, l7, some (.int x), l9, l10, l11, l12, l13, l14] st S V Q := xi_st1 (j := 7) (v := .int x) (show decode cL_addsUp 23 = .ok (.istore 8, 2) by decide +kernel) rfl h rfl rfl
theorem pL_addsUp_25 : xX E mL_addsUp 25 [l0, l1, l2, l3, l4, l5, l6, l7, l8, l9, l10, l11, l12, l13, l14] st S V Q ↔ xX E mL_addsUp 26 [l0, l1, l2, l3, l4, l5, l6, l7, l8, l9, l10, l11, l12, l13, l14] (.int (nI 0) :: st) S V Q := xi (show decode cL_addsUp 25 = .ok (.iconst 0, 1) by decide +kernel) rfl
theorem pL_addsUp_26 (h : xnl l8 = true) : xX E mL_addsUp 26 [l0, l1, l2, l3, l4, l5, l6, l7, l8, l9, l10, l11, l12, l13, l14] (.int x :: st) S V Q ↔ xX E mL_addsUp 28 [l0, l1, l2, l3, l4, l5, l6, l7, l8, some (.int x), l10, l11, l12, l13, l14] st S V Q := xi_st1 (j := 8) (v := .int x) (show decode cL_addsUp 26 = .ok (.istore 9, 2) by decide +kernel) rfl h rfl rfl
theorem pL_addsUp_28 : xX E mL_addsUp 28 [l0, l1, l2, l3, l4, l5, l6, l7, l8, l9, l10, l11, l12, l13, l14] st S V Q ↔ xX E mL_addsUp 29 [l0, l1, l2, l3, l4, l5, l6, l7, l8, l9, l10, l11, l12, l13, l14] (.int (nI 0) :: st) S V Q := xi (show decode cL_addsUp 28 = .ok (.iconst 0, 1) by decide +kernel) rfl
theorem pL_addsUp_29 (h : xnl l9 = true) : xX E mL_addsUp 29 [l0, l1, l2, l3, l4, l5, l6, l7, l8, l9, l10, l11, l12, l13, l14] (.int x :: st) S V Q ↔ xX E mL_addsUp 31 [l0, l1, l2, l3, l4, l5, l6, l7, l8, l9, some (.int x), l11, l12, l13, l14] st S V Q := xi_st1 (j := 9) (v := .int x) (show decode cL_addsUp 29 = .ok (.istore 10, 2) by decide +kernel) rfl h rfl rfl
theorem pL_addsUp_31 : xX E mL_addsUp 31 [l0, l1, l2, l3, l4, l5, l6, l7, l8, l9, some (.int x), l11, l12, l13, l14] st S V Q ↔ xX E mL_addsUp 33 [l0, l1, l2, l3, l4, l5, l6, l7, l8, l9, some (.int x), l11, l12, l13, l14] (.int x :: st) S V Q := xi (show decode cL_addsUp 31 = .ok (.iload 10, 2) by decide +kernel) rfl
theorem pL_addsUp_33 : xX E mL_addsUp 33 [l0, l1, l2, l3, l4, l5, l6, l7, l8, l9, l10, l11, l12, l13, l14] st S V Q ↔ xX E mL_addsUp 35 [l0, l1, l2, l3, l4, l5, l6, l7, l8, l9, l10, l11, l12, l13, l14] (.int (nI 8) :: st) S V Q := xi (show decode cL_addsUp 33 = .ok (.bipush 8, 2) by decide +kernel) rfl
theorem pL_addsUp_35 : xX E mL_addsUp 35 [l0, l1, l2, l3, l4, l5, l6, l7, l8, l9, l10, l11, l12, l13, l14] (.int y :: .int x :: st) S V Q ↔ if y ≤ x then xX E mL_addsUp 368 [l0, l1, l2, l3, l4, l5, l6, l7, l8, l9, l10, l11, l12, l13, l14] st S V Q else xX E mL_addsUp 38 [l0, l1, l2, l3, l4, l5, l6, l7, l8, l9, l10, l11, l12, l13, l14] st S V Q := xi_icmp (show decode cL_addsUp 35 = .ok (.if_icmp .ge 333, 3) by decide +kernel) (by decide) xcb_ge
theorem pL_addsUp_38 : xX E mL_addsUp 38 [some (.ref a), l1, l2, l3, l4, l5, l6, l7, l8, l9, l10, l11, l12, l13, l14] st S V Q ↔ xX E mL_addsUp 39 [some (.ref a), l1, l2, l3, l4, l5, l6, l7, l8, l9, l10, l11, l12, l13, l14] (.ref a :: st) S V Q := xi (show decode cL_addsUp 38 = .ok (.aload_n 0, 1) by decide +kernel) rfl
theorem pL_addsUp_39 : xX E mL_addsUp 39 [l0, l1, l2, l3, l4, l5, l6, l7, l8, l9, some (.int x), l11, l12, l13, l14] st S V Q ↔ xX E mL_addsUp 41 [l0, l1, l2, l3, l4, l5, l6, l7, l8, l9, some (.int x), l11, l12, l13, l14] (.int x :: st) S V Q := xi (show decode cL_addsUp 39 = .ok (.iload 10, 2) by decide +kernel) rfl
theorem pL_addsUp_41 : xX E mL_addsUp 41 [l0, l1, l2, l3, l4, l5, l6, l7, l8, l9, l10, l11, l12, l13, l14] st S V Q ↔ xX E mL_addsUp 43 [l0, l1, l2, l3, l4, l5, l6, l7, l8, l9, l10, l11, l12, l13, l14] (.int (nI 7) :: st) S V Q := xi (show decode cL_addsUp 41 = .ok (.bipush 7, 2) by decide +kernel) rfl
theorem pL_addsUp_43 {x0 : Int32} {x1 : Int32} (h : xkd S a = 5) (hc : xcat st ≤ 8) : xX E mL_addsUp 43 [l0, l1, l2, l3, l4, l5, l6, l7, l8, l9, l10, l11, l12, l13, l14] (.int x1 :: .int x0 :: .ref a :: st) S V Q ↔ xC E mX4_of [.ref a, .int x0, .int x1] S V (fun v S V => xX E mL_addsUp 46 [l0, l1, l2, l3, l4, l5, l6, l7, l8, l9, l10, l11, l12, l13, l14] (v.toList ++ st) S V Q) := xi_callV (as := [.int x0, .int x1]) (show decode cL_addsUp 43 = .ok (.invokevirtual 18, 3) by decide +kernel) xct_6_18 rfl rfl (by decide) (Nat.le_of_ble_eq_true rfl) rfl h hc
theorem pL_addsUp_46 (h : xnl l10 = true) : xX E mL_addsUp 46 [l0, l1, l2, l3, l4, l5, l6, l7, l8, l9, l10, l11, l12, l13, l14] (.int x :: st) S V Q ↔ xX E mL_addsUp 48 [l0, l1, l2, l3, l4, l5, l6, l7, l8, l9, l10, some (.int x), l12, l13, l14] st S V Q := xi_st1 (j := 10) (v := .int x) (show decode cL_addsUp 46 = .ok (.istore 11, 2) by decide +kernel) rfl h rfl rfl
theorem pL_addsUp_48 : xX E mL_addsUp 48 [some (.ref a), l1, l2, l3, l4, l5, l6, l7, l8, l9, l10, l11, l12, l13, l14] st S V Q ↔ xX E mL_addsUp 49 [some (.ref a), l1, l2, l3, l4, l5, l6, l7, l8, l9, l10, l11, l12, l13, l14] (.ref a :: st) S V Q := xi (show decode cL_addsUp 48 = .ok (.aload_n 0, 1) by decide +kernel) rfl
theorem pL_addsUp_49 : xX E mL_addsUp 49 [l0, l1, l2, l3, l4, l5, l6, l7, l8, l9, some (.int x), l11, l12, l13, l14] st S V Q ↔ xX E mL_addsUp 51 [l0, l1, l2, l3, l4, l5, l6, l7, l8, l9, some (.int x), l11, l12, l13, l14] (.int x :: st) S V Q := xi (show decode cL_addsUp 49 = .ok (.iload 10, 2) by decide +kernel) rfl
theorem pL_addsUp_51 : xX E mL_addsUp 51 [l0, l1, l2, l3, l4, l5, l6, l7, l8, l9, l10, l11, l12, l13, l14] st S V Q ↔ xX E mL_addsUp 53 [l0, l1, l2, l3, l4, l5, l6, l7, l8, l9, l10, l11, l12, l13, l14] (.int (nI 8) :: st) S V Q := xi (show decode cL_addsUp 51 = .ok (.bipush 8, 2) by decide +kernel) rfl
theorem pL_addsUp_53 {x0 : Int32} {x1 : Int32} (h : xkd S a = 5) (hc : xcat st ≤ 8) : xX E mL_addsUp 53 [l0, l1, l2, l3, l4, l5, l6, l7, l8, l9, l10, l11, l12, l13, l14] (.int x1 :: .int x0 :: .ref a :: st) S V Q ↔ xC E mX4_of [.ref a, .int x0, .int x1] S V (fun v S V => xX E mL_addsUp 56 [l0, l1, l2, l3, l4, l5, l6, l7, l8, l9, l10, l11, l12, l13, l14] (v.toList ++ st) S V Q) := xi_callV (as := [.int x0, .int x1]) (show decode cL_addsUp 53 = .ok (.invokevirtual 18, 3) by decide +kernel) xct_6_18 rfl rfl (by decide) (Nat.le_of_ble_eq_true rfl) rfl h hc
theorem pL_addsUp_56 (h : xnl l11 = true) : xX E mL_addsUp 56 [l0, l1, l2, l3, l4, l5, l6, l7, l8, l9, l10, l11, l12, l13, l14] (.int x :: st) S V Q ↔ xX E mL_addsUp 58 [l0, l1, l2, l3, l4, l5, l6, l7, l8, l9, l10, l11, some (.int x), l13, l14] st S V Q := xi_st1 (j := 11) (v := .int x) (show decode cL_addsUp 56 = .ok (.istore 12, 2) by decide +kernel) rfl h rfl rfl
theorem pL_addsUp_58 : xX E mL_addsUp 58 [some (.ref a), l1, l2, l3, l4, l5, l6, l7, l8, l9, l10, l11, l12, l13, l14] st S V Q ↔ xX E mL_addsUp 59 [some (.ref a), l1, l2, l3, l4, l5, l6, l7, l8, l9, l10, l11, l12, l13, l14] (.ref a :: st) S V Q := xi (show decode cL_addsUp 58 = .ok (.aload_n 0, 1) by decide +kernel) rfl
theorem pL_addsUp_59 : xX E mL_addsUp 59 [l0, l1, l2, l3, l4, l5, l6, l7, l8, l9, some (.int x), l11, l12, l13, l14] st S V Q ↔ xX E mL_addsUp 61 [l0, l1, l2, l3, l4, l5, l6, l7, l8, l9, some (.int x), l11, l12, l13, l14] (.int x :: st) S V Q := xi (show decode cL_addsUp 59 = .ok (.iload 10, 2) by decide +kernel) rfl
theorem pL_addsUp_61 : xX E mL_addsUp 61 [l0, l1, l2, l3, l4, l5, l6, l7, l8, l9, l10, l11, l12, l13, l14] st S V Q ↔ xX E mL_addsUp 63 [l0, l1, l2, l3, l4, l5, l6, l7, l8, l9, l10, l11, l12, l13, l14] (.int (nI 10) :: st) S V Q := xi (show decode cL_addsUp 61 = .ok (.bipush 10, 2) by decide +kernel) rfl
theorem pL_addsUp_63 {x0 : Int32} {x1 : Int32} (h : xkd S a = 5) (hc : xcat st ≤ 8) : xX E mL_addsUp 63 [l0, l1, l2, l3, l4, l5, l6, l7, l8, l9, l10, l11, l12, l13, l14] (.int x1 :: .int x0 :: .ref a :: st) S V Q ↔ xC E mX4_of [.ref a, .int x0, .int x1] S V (fun v S V => xX E mL_addsUp 66 [l0, l1, l2, l3, l4, l5, l6, l7, l8, l9, l10, l11, l12, l13, l14] (v.toList ++ st) S V Q) := xi_callV (as := [.int x0, .int x1]) (show decode cL_addsUp 63 = .ok (.invokevirtual 18, 3) by decide +kernel) xct_6_18 rfl rfl (by decide) (Nat.le_of_ble_eq_true rfl) rfl h hc
theorem pL_addsUp_66 : xX E mL_addsUp 66 [some (.ref a), l1, l2, l3, l4, l5, l6, l7, l8, l9, l10, l11, l12, l13, l14] st S V Q ↔ xX E mL_addsUp 67 [some (.ref a), l1, l2, l3, l4, l5, l6, l7, l8, l9, l10, l11, l12, l13, l14] (.ref a :: st) S V Q := xi (show decode cL_addsUp 66 = .ok (.aload_n 0, 1) by decide +kernel) rfl
theorem pL_addsUp_67 : xX E mL_addsUp 67 [l0, l1, l2, l3, l4, l5, l6, l7, l8, l9, some (.int x), l11, l12, l13, l14] st S V Q ↔ xX E mL_addsUp 69 [l0, l1, l2, l3, l4, l5, l6, l7, l8, l9, some (.int x), l11, l12, l13, l14] (.int x :: st) S V Q := xi (show decode cL_addsUp 67 = .ok (.iload 10, 2) by decide +kernel) rfl
theorem pL_addsUp_69 : xX E mL_addsUp 69 [l0, l1, l2, l3, l4, l5, l6, l7, l8, l9, l10, l11, l12, l13, l14] st S V Q ↔ xX E mL_addsUp 71 [l0, l1, l2, l3, l4, l5, l6, l7, l8, l9, l10, l11, l12, l13, l14] (.int (nI 12) :: st) S V Q := xi (show decode cL_addsUp 69 = .ok (.bipush 12, 2) by decide +kernel) rfl
theorem pL_addsUp_71 {x0 : Int32} {x1 : Int32} (h : xkd S a = 5) (hc : xcat st ≤ 8) : xX E mL_addsUp 71 [l0, l1, l2, l3, l4, l5, l6, l7, l8, l9, l10, l11, l12, l13, l14] (.int x1 :: .int x0 :: .ref a :: st) S V Q ↔ xC E mX4_of [.ref a, .int x0, .int x1] S V (fun v S V => xX E mL_addsUp 74 [l0, l1, l2, l3, l4, l5, l6, l7, l8, l9, l10, l11, l12, l13, l14] (v.toList ++ st) S V Q) := xi_callV (as := [.int x0, .int x1]) (show decode cL_addsUp 71 = .ok (.invokevirtual 18, 3) by decide +kernel) xct_6_18 rfl rfl (by decide) (Nat.le_of_ble_eq_true rfl) rfl h hc
theorem pL_addsUp_74 : xX E mL_addsUp 74 [l0, l1, l2, l3, l4, l5, l6, l7, l8, l9, l10, l11, l12, l13, l14] (.int y :: .int x :: st) S V Q ↔ xX E mL_addsUp 75 [l0, l1, l2, l3, l4, l5, l6, l7, l8, l9, l10, l11, l12, l13, l14] (.int (x + y) :: st) S V Q := xi (show decode cL_addsUp 74 = .ok (.iadd, 1) by decide +kernel) rfl
theorem pL_addsUp_75 : xX E mL_addsUp 75 [some (.ref a), l1, l2, l3, l4, l5, l6, l7, l8, l9, l10, l11, l12, l13, l14] st S V Q ↔ xX E mL_addsUp 76 [some (.ref a), l1, l2, l3, l4, l5, l6, l7, l8, l9, l10, l11, l12, l13, l14] (.ref a :: st) S V Q := xi (show decode cL_addsUp 75 = .ok (.aload_n 0, 1) by decide +kernel) rfl
theorem pL_addsUp_76 : xX E mL_addsUp 76 [l0, l1, l2, l3, l4, l5, l6, l7, l8, l9, some (.int x), l11, l12, l13, l14] st S V Q ↔ xX E mL_addsUp 78 [l0, l1, l2, l3, l4, l5, l6, l7, l8, l9, some (.int x), l11, l12, l13, l14] (.int x :: st) S V Q := xi (show decode cL_addsUp 76 = .ok (.iload 10, 2) by decide +kernel) rfl
theorem pL_addsUp_78 : xX E mL_addsUp 78 [l0, l1, l2, l3, l4, l5, l6, l7, l8, l9, l10, l11, l12, l13, l14] st S V Q ↔ xX E mL_addsUp 80 [l0, l1, l2, l3, l4, l5, l6, l7, l8, l9, l10, l11, l12, l13, l14] (.int (nI 13) :: st) S V Q := xi (show decode cL_addsUp 78 = .ok (.bipush 13, 2) by decide +kernel) rfl
theorem pL_addsUp_80 {x0 : Int32} {x1 : Int32} (h : xkd S a = 5) (hc : xcat st ≤ 8) : xX E mL_addsUp 80 [l0, l1, l2, l3, l4, l5, l6, l7, l8, l9, l10, l11, l12, l13, l14] (.int x1 :: .int x0 :: .ref a :: st) S V Q ↔ xC E mX4_of [.ref a, .int x0, .int x1] S V (fun v S V => xX E mL_addsUp 83 [l0, l1, l2, l3, l4, l5, l6, l7, l8, l9, l10, l11, l12, l13, l14] (v.toList ++ st) S V Q) := xi_callV (as := [.int x0, .int x1]) (show decode cL_addsUp 80 = .ok (.invokevirtual 18, 3) by decide +kernel) xct_6_18 rfl rfl (by decide) (Nat.le_of_ble_eq_true rfl) rfl h hc
theorem pL_addsUp_83 : xX E mL_addsUp 83 [l0, l1, l2, l3, l4, l5, l6, l7, l8, l9, l10, l11, l12, l13, l14] (.int y :: .int x :: st) S V Q ↔ xX E mL_addsUp 84 [l0, l1, l2, l3, l4, l5, l6, l7, l8, l9, l10, l11, l12, l13, l14] (.int (x + y) :: st) S V Q := xi (show decode cL_addsUp 83 = .ok (.iadd, 1) by decide +kernel) rfl
theorem pL_addsUp_84 : xX E mL_addsUp 84 [l0, some (.int x), l2, l3, l4, l5, l6, l7, l8, l9, l10, l11, l12, l13, l14] st S V Q ↔ xX E mL_addsUp 85 [l0, some (.int x), l2, l3, l4, l5, l6, l7, l8, l9, l10, l11, l12, l13, l14] (.int x :: st) S V Q := xi (show decode cL_addsUp 84 = .ok (.iload_n 1, 1) by decide +kernel) rfl
theorem pL_addsUp_85 : xX E mL_addsUp 85 [l0, l1, l2, l3, l4, l5, l6, l7, l8, l9, l10, l11, l12, l13, l14] st S V Q ↔ xX E mL_addsUp 87 [l0, l1, l2, l3, l4, l5, l6, l7, l8, l9, l10, l11, l12, l13, l14] (.int (nI 7) :: st) S V Q := xi (show decode cL_addsUp 85 = .ok (.bipush 7, 2) by decide +kernel) rfl
theorem pL_addsUp_87 : xX E mL_addsUp 87 [l0, l1, l2, l3, l4, l5, l6, l7, l8, l9, l10, l11, l12, l13, l14] (.int y :: .int x :: st) S V Q ↔ xX E mL_addsUp 88 [l0, l1, l2, l3, l4, l5, l6, l7, l8, l9, l10, l11, l12, l13, l14] (.int (x + y) :: st) S V Q := xi (show decode cL_addsUp 87 = .ok (.iadd, 1) by decide +kernel) rfl
theorem pL_addsUp_88 : xX E mL_addsUp 88 [l0, l1, l2, l3, l4, l5, l6, l7, l8, l9, some (.int x), l11, l12, l13, l14] st S V Q ↔ xX E mL_addsUp 90 [l0, l1, l2, l3, l4, l5, l6, l7, l8, l9, some (.int x), l11, l12, l13, l14] (.int x :: st) S V Q := xi (show decode cL_addsUp 88 = .ok (.iload 10, 2) by decide +kernel) rfl
theorem pL_addsUp_90 : xX E mL_addsUp 90 [l0, l1, l2, l3, l4, l5, l6, l7, l8, l9, l10, l11, l12, l13, l14] (.int y :: .int x :: st) S V Q ↔ xX E mL_addsUp 91 [l0, l1, l2, l3, l4, l5, l6, l7, l8, l9, l10, l11, l12, l13, l14] (.int (x - y) :: st) S V Q := xi (show decode cL_addsUp 90 = .ok (.isub, 1) by decide +kernel) rfl
theorem pL_addsUp_91 : xX E mL_addsUp 91 [l0, l1, l2, l3, l4, l5, l6, l7, l8, l9, l10, l11, l12, l13, l14] st S V Q ↔ xX E mL_addsUp 93 [l0, l1, l2, l3, l4, l5, l6, l7, l8, l9, l10, l11, l12, l13, l14] (.int (nI 8) :: st) S V Q := xi (show decode cL_addsUp 91 = .ok (.bipush 8, 2) by decide +kernel) rfl
theorem pL_addsUp_93 (h0 : 0 < b) (ha : a < 2147483648) (hb : b < 2147483648) : xX E mL_addsUp 93 [l0, l1, l2, l3, l4, l5, l6, l7, l8, l9, l10, l11, l12, l13, l14] (.int (nI b) :: .int (nI a) :: st) S V Q ↔ xX E mL_addsUp 94 [l0, l1, l2, l3, l4, l5, l6, l7, l8, l9, l10, l11, l12, l13, l14] (.int (nI (a / b)) :: st) S V Q := xi_div (show decode cL_addsUp 93 = .ok (.idiv, 1) by decide +kernel) h0 ha hb
theorem pL_addsUp_94 : xX E mL_addsUp 94 [l0, l1, l2, l3, l4, l5, l6, l7, l8, l9, l10, l11, l12, l13, l14] (.int y :: .int x :: st) S V Q ↔ if ¬ x = y then xX E mL_addsUp 136 [l0, l1, l2, l3, l4, l5, l6, l7, l8, l9, l10, l11, l12, l13, l14] st S V Q else xX E mL_addsUp 97 [l0, l1, l2, l3, l4, l5, l6, l7, l8, l9, l10, l11, l12, l13, l14] st S V Q := xi_icmp (show decode cL_addsUp 94 = .ok (.if_icmp .ne 42, 3) by decide +kernel) (by decide) xcb_ne
theorem pL_addsUp_97 : xX E mL_addsUp 97 [some (.ref a), l1, l2, l3, l4, l5, l6, l7, l8, l9, l10, l11, l12, l13, l14] st S V Q ↔ xX E mL_addsUp 98 [some (.ref a), l1, l2, l3, l4, l5, l6, l7, l8, l9, l10, l11, l12, l13, l14] (.ref a :: st) S V Q := xi (show decode cL_addsUp 97 = .ok (.aload_n 0, 1) by decide +kernel) rfl
theorem pL_addsUp_98 : xX E mL_addsUp 98 [l0, l1, l2, l3, l4, l5, l6, l7, l8, l9, some (.int x), l11, l12, l13, l14] st S V Q ↔ xX E mL_addsUp 100 [l0, l1, l2, l3, l4, l5, l6, l7, l8, l9, some (.int x), l11, l12, l13, l14] (.int x :: st) S V Q := xi (show decode cL_addsUp 98 = .ok (.iload 10, 2) by decide +kernel) rfl
theorem pL_addsUp_100 : xX E mL_addsUp 100 [l0, l1, l2, l3, l4, l5, l6, l7, l8, l9, l10, l11, l12, l13, l14] st S V Q ↔ xX E mL_addsUp 101 [l0, l1, l2, l3, l4, l5, l6, l7, l8, l9, l10, l11, l12, l13, l14] (.int (nI 4) :: st) S V Q := xi (show decode cL_addsUp 100 = .ok (.iconst 4, 1) by decide +kernel) rfl
theorem pL_addsUp_101 {x0 : Int32} {x1 : Int32} (h : xkd S a = 5) (hc : xcat st ≤ 8) : xX E mL_addsUp 101 [l0, l1, l2, l3, l4, l5, l6, l7, l8, l9, l10, l11, l12, l13, l14] (.int x1 :: .int x0 :: .ref a :: st) S V Q ↔ xC E mX4_of [.ref a, .int x0, .int x1] S V (fun v S V => xX E mL_addsUp 104 [l0, l1, l2, l3, l4, l5, l6, l7, l8, l9, l10, l11, l12, l13, l14] (v.toList ++ st) S V Q) := xi_callV (as := [.int x0, .int x1]) (show decode cL_addsUp 101 = .ok (.invokevirtual 18, 3) by decide +kernel) xct_6_18 rfl rfl (by decide) (Nat.le_of_ble_eq_true rfl) rfl h hc
theorem pL_addsUp_104 : xX E mL_addsUp 104 [some (.ref a), l1, l2, l3, l4, l5, l6, l7, l8, l9, l10, l11, l12, l13, l14] st S V Q ↔ xX E mL_addsUp 105 [some (.ref a), l1, l2, l3, l4, l5, l6, l7, l8, l9, l10, l11, l12, l13, l14] (.ref a :: st) S V Q := xi (show decode cL_addsUp 104 = .ok (.aload_n 0, 1) by decide +kernel) rfl
theorem pL_addsUp_105 : xX E mL_addsUp 105 [l0, l1, l2, l3, l4, l5, l6, l7, l8, l9, some (.int x), l11, l12, l13, l14] st S V Q ↔ xX E mL_addsUp 107 [l0, l1, l2, l3, l4, l5, l6, l7, l8, l9, some (.int x), l11, l12, l13, l14] (.int x :: st) S V Q := xi (show decode cL_addsUp 105 = .ok (.iload 10, 2) by decide +kernel) rfl
theorem pL_addsUp_107 : xX E mL_addsUp 107 [l0, l1, l2, l3, l4, l5, l6, l7, l8, l9, l10, l11, l12, l13, l14] st S V Q ↔ xX E mL_addsUp 108 [l0, l1, l2, l3, l4, l5, l6, l7, l8, l9, l10, l11, l12, l13, l14] (.int (nI 3) :: st) S V Q := xi (show decode cL_addsUp 107 = .ok (.iconst 3, 1) by decide +kernel) rfl
theorem pL_addsUp_108 {x0 : Int32} {x1 : Int32} (h : xkd S a = 5) (hc : xcat st ≤ 8) : xX E mL_addsUp 108 [l0, l1, l2, l3, l4, l5, l6, l7, l8, l9, l10, l11, l12, l13, l14] (.int x1 :: .int x0 :: .ref a :: st) S V Q ↔ xC E mX4_of [.ref a, .int x0, .int x1] S V (fun v S V => xX E mL_addsUp 111 [l0, l1, l2, l3, l4, l5, l6, l7, l8, l9, l10, l11, l12, l13, l14] (v.toList ++ st) S V Q) := xi_callV (as := [.int x0, .int x1]) (show decode cL_addsUp 108 = .ok (.invokevirtual 18, 3) by decide +kernel) xct_6_18 rfl rfl (by decide) (Nat.le_of_ble_eq_true rfl) rfl h hc
theorem pL_addsUp_111 : xX E mL_addsUp 111 [l0, l1, l2, l3, l4, l5, l6, l7, l8, l9, l10, l11, l12, l13, l14] (.int y :: .int x :: st) S V Q ↔ if x < y then xX E mL_addsUp 136 [l0, l1, l2, l3, l4, l5, l6, l7, l8, l9, l10, l11, l12, l13, l14] st S V Q else xX E mL_addsUp 114 [l0, l1, l2, l3, l4, l5, l6, l7, l8, l9, l10, l11, l12, l13, l14] st S V Q := xi_icmp (show decode cL_addsUp 111 = .ok (.if_icmp .lt 25, 3) by decide +kernel) (by decide) xcb_lt
theorem pL_addsUp_114 : xX E mL_addsUp 114 [some (.ref a), l1, l2, l3, l4, l5, l6, l7, l8, l9, l10, l11, l12, l13, l14] st S V Q ↔ xX E mL_addsUp 115 [some (.ref a), l1, l2, l3, l4, l5, l6, l7, l8, l9, l10, l11, l12, l13, l14] (.ref a :: st) S V Q := xi (show decode cL_addsUp 114 = .ok (.aload_n 0, 1) by decide +kernel) rfl
theorem pL_addsUp_115 : xX E mL_addsUp 115 [l0, l1, l2, l3, l4, l5, l6, l7, l8, l9, some (.int x), l11, l12, l13, l14] st S V Q ↔ xX E mL_addsUp 117 [l0, l1, l2, l3, l4, l5, l6, l7, l8, l9, some (.int x), l11, l12, l13, l14] (.int x :: st) S V Q := xi (show decode cL_addsUp 115 = .ok (.iload 10, 2) by decide +kernel) rfl
theorem pL_addsUp_117 : xX E mL_addsUp 117 [l0, l1, l2, l3, l4, l5, l6, l7, l8, l9, l10, l11, l12, l13, l14] st S V Q ↔ xX E mL_addsUp 118 [l0, l1, l2, l3, l4, l5, l6, l7, l8, l9, l10, l11, l12, l13, l14] (.int (nI 5) :: st) S V Q := xi (show decode cL_addsUp 117 = .ok (.iconst 5, 1) by decide +kernel) rfl
theorem pL_addsUp_118 {x0 : Int32} {x1 : Int32} (h : xkd S a = 5) (hc : xcat st ≤ 8) : xX E mL_addsUp 118 [l0, l1, l2, l3, l4, l5, l6, l7, l8, l9, l10, l11, l12, l13, l14] (.int x1 :: .int x0 :: .ref a :: st) S V Q ↔ xC E mX4_of [.ref a, .int x0, .int x1] S V (fun v S V => xX E mL_addsUp 121 [l0, l1, l2, l3, l4, l5, l6, l7, l8, l9, l10, l11, l12, l13, l14] (v.toList ++ st) S V Q) := xi_callV (as := [.int x0, .int x1]) (show decode cL_addsUp 118 = .ok (.invokevirtual 18, 3) by decide +kernel) xct_6_18 rfl rfl (by decide) (Nat.le_of_ble_eq_true rfl) rfl h hc
theorem pL_addsUp_121 : xX E mL_addsUp 121 [l0, l1, l2, l3, l4, l5, l6, l7, l8, l9, l10, l11, l12, l13, l14] st S V Q ↔ xX E mL_addsUp 122 [l0, l1, l2, l3, l4, l5, l6, l7, l8, l9, l10, l11, l12, l13, l14] (.int (nI 4) :: st) S V Q := xi (show decode cL_addsUp 121 = .ok (.iconst 4, 1) by decide +kernel) rfl
theorem pL_addsUp_122 : xX E mL_addsUp 122 [l0, l1, l2, l3, l4, l5, l6, l7, l8, l9, l10, l11, l12, l13, l14] (.int y :: .int x :: st) S V Q ↔ if y < x then xX E mL_addsUp 136 [l0, l1, l2, l3, l4, l5, l6, l7, l8, l9, l10, l11, l12, l13, l14] st S V Q else xX E mL_addsUp 125 [l0, l1, l2, l3, l4, l5, l6, l7, l8, l9, l10, l11, l12, l13, l14] st S V Q := xi_icmp (show decode cL_addsUp 122 = .ok (.if_icmp .gt 14, 3) by decide +kernel) (by decide) xcb_gt
theorem pL_addsUp_125 : xX E mL_addsUp 125 [l0, l1, l2, l3, l4, l5, l6, l7, l8, l9, l10, some (.int x), l12, l13, l14] st S V Q ↔ xX E mL_addsUp 127 [l0, l1, l2, l3, l4, l5, l6, l7, l8, l9, l10, some (.int x), l12, l13, l14] (.int x :: st) S V Q := xi (show decode cL_addsUp 125 = .ok (.iload 11, 2) by decide +kernel) rfl
theorem pL_addsUp_127 : xX E mL_addsUp 127 [l0, l1, l2, l3, l4, l5, l6, l7, l8, l9, l10, l11, l12, l13, l14] st S V Q ↔ xX E mL_addsUp 128 [l0, l1, l2, l3, l4, l5, l6, l7, l8, l9, l10, l11, l12, l13, l14] (.int (nI 3) :: st) S V Q := xi (show decode cL_addsUp 127 = .ok (.iconst 3, 1) by decide +kernel) rfl
theorem pL_addsUp_128 : xX E mL_addsUp 128 [l0, l1, l2, l3, l4, l5, l6, l7, l8, l9, l10, l11, l12, l13, l14] (.int y :: .int x :: st) S V Q ↔ if y ≤ x then xX E mL_addsUp 138 [l0, l1, l2, l3, l4, l5, l6, l7, l8, l9, l10, l11, l12, l13, l14] st S V Q else xX E mL_addsUp 131 [l0, l1, l2, l3, l4, l5, l6, l7, l8, l9, l10, l11, l12, l13, l14] st S V Q := xi_icmp (show decode cL_addsUp 128 = .ok (.if_icmp .ge 10, 3) by decide +kernel) (by decide) xcb_ge
theorem pL_addsUp_131 : xX E mL_addsUp 131 [l0, l1, l2, l3, l4, l5, l6, l7, l8, l9, l10, l11, some (.int x), l13, l14] st S V Q ↔ xX E mL_addsUp 133 [l0, l1, l2, l3, l4, l5, l6, l7, l8, l9, l10, l11, some (.int x), l13, l14] (.int x :: st) S V Q := xi (show decode cL_addsUp 131 = .ok (.iload 12, 2) by decide +kernel) rfl
theorem pL_addsUp_133 : xX E mL_addsUp 133 [l0, l1, l2, l3, l4, l5, l6, l7, l8, l9, l10, l11, l12, l13, l14] (.int x :: st) S V Q ↔ if x = nI 0 then xX E mL_addsUp 138 [l0, l1, l2, l3, l4, l5, l6, l7, l8, l9, l10, l11, l12, l13, l14] st S V Q else xX E mL_addsUp 136 [l0, l1, l2, l3, l4, l5, l6, l7, l8, l9, l10, l11, l12, l13, l14] st S V Q := xi_if (show decode cL_addsUp 133 = .ok (.ifCond .eq 5, 3) by decide +kernel) (by decide) xcb_eq
theorem pL_addsUp_136 : xX E mL_addsUp 136 [l0, l1, l2, l3, l4, l5, l6, l7, l8, l9, l10, l11, l12, l13, l14] st S V Q ↔ xX E mL_addsUp 137 [l0, l1, l2, l3, l4, l5, l6, l7, l8, l9, l10, l11, l12, l13, l14] (.int (nI 0) :: st) S V Q := xi (show decode cL_addsUp 136 = .ok (.iconst 0, 1) by decide +kernel) rfl
theorem pL_addsUp_137 (h : b < 2) : xX E mL_addsUp 137 [l0, l1, l2, l3, l4, l5, l6, l7, l8, l9, l10, l11, l12, l13, l14] [.int (nI b)] S V Q ↔ Q (some (.int (nI b))) S V := xi_retZ (show decode cL_addsUp 137 = .ok (.ireturn, 1) by decide +kernel) rfl h
theorem pL_addsUp_138 : xX E mL_addsUp 138 [l0, l1, some (.int x), l3, l4, l5, l6, l7, l8, l9, l10, l11, l12, l13, l14] st S V Q ↔ xX E mL_addsUp 139 [l0, l1, some (.int x), l3, l4, l5, l6, l7, l8, l9, l10, l11, l12, l13, l14] (.int x :: st) S V Q := xi (show decode cL_addsUp 138 = .ok (.iload_n 2, 1) by decide +kernel) rfl
theorem pL_addsUp_139 : xX E mL_addsUp 139 [some (.ref a), l1, l2, l3, l4, l5, l6, l7, l8, l9, l10, l11, l12, l13, l14] st S V Q ↔ xX E mL_addsUp 140 [some (.ref a), l1, l2, l3, l4, l5, l6, l7, l8, l9, l10, l11, l12, l13, l14] (.ref a :: st) S V Q := xi (show decode cL_addsUp 139 = .ok (.aload_n 0, 1) by decide +kernel) rfl
theorem pL_addsUp_140 : xX E mL_addsUp 140 [l0, l1, l2, l3, l4, l5, l6, l7, l8, l9, some (.int x), l11, l12, l13, l14] st S V Q ↔ xX E mL_addsUp 142 [l0, l1, l2, l3, l4, l5, l6, l7, l8, l9, some (.int x), l11, l12, l13, l14] (.int x :: st) S V Q := xi (show decode cL_addsUp 140 = .ok (.iload 10, 2) by decide +kernel) rfl
theorem pL_addsUp_142 : xX E mL_addsUp 142 [l0, l1, l2, l3, l4, l5, l6, l7, l8, l9, l10, l11, l12, l13, l14] st S V Q ↔ xX E mL_addsUp 144 [l0, l1, l2, l3, l4, l5, l6, l7, l8, l9, l10, l11, l12, l13, l14] (.int (nI 12) :: st) S V Q := xi (show decode cL_addsUp 142 = .ok (.bipush 12, 2) by decide +kernel) rfl
theorem pL_addsUp_144 {x0 : Int32} {x1 : Int32} (h : xkd S a = 5) (hc : xcat st ≤ 8) : xX E mL_addsUp 144 [l0, l1, l2, l3, l4, l5, l6, l7, l8, l9, l10, l11, l12, l13, l14] (.int x1 :: .int x0 :: .ref a :: st) S V Q ↔ xC E mX4_of [.ref a, .int x0, .int x1] S V (fun v S V => xX E mL_addsUp 147 [l0, l1, l2, l3, l4, l5, l6, l7, l8, l9, l10, l11, l12, l13, l14] (v.toList ++ st) S V Q) := xi_callV (as := [.int x0, .int x1]) (show decode cL_addsUp 144 = .ok (.invokevirtual 18, 3) by decide +kernel) xct_6_18 rfl rfl (by decide) (Nat.le_of_ble_eq_true rfl) rfl h hc
theorem pL_addsUp_147 : xX E mL_addsUp 147 [l0, l1, l2, l3, l4, l5, l6, l7, l8, l9, l10, l11, l12, l13, l14] (.int y :: .int x :: st) S V Q ↔ xX E mL_addsUp 148 [l0, l1, l2, l3, l4, l5, l6, l7, l8, l9, l10, l11, l12, l13, l14] (.int (x + y) :: st) S V Q := xi (show decode cL_addsUp 147 = .ok (.iadd, 1) by decide +kernel) rfl
theorem pL_addsUp_148 (h : xnl l1 = true) : xX E mL_addsUp 148 [l0, l1, l2, l3, l4, l5, l6, l7, l8, l9, l10, l11, l12, l13, l14] (.int x :: st) S V Q ↔ xX E mL_addsUp 149 [l0, l1, some (.int x), l3, l4, l5, l6, l7, l8, l9, l10, l11, l12, l13, l14] st S V Q := xi_st1 (j := 1) (v := .int x) (show decode cL_addsUp 148 = .ok (.istore_n 2, 1) by decide +kernel) rfl h rfl rfl
theorem pL_addsUp_149 : xX E mL_addsUp 149 [l0, l1, l2, some (.int x), l4, l5, l6, l7, l8, l9, l10, l11, l12, l13, l14] st S V Q ↔ xX E mL_addsUp 150 [l0, l1, l2, some (.int x), l4, l5, l6, l7, l8, l9, l10, l11, l12, l13, l14] (.int x :: st) S V Q := xi (show decode cL_addsUp 149 = .ok (.iload_n 3, 1) by decide +kernel) rfl
theorem pL_addsUp_150 : xX E mL_addsUp 150 [some (.ref a), l1, l2, l3, l4, l5, l6, l7, l8, l9, l10, l11, l12, l13, l14] st S V Q ↔ xX E mL_addsUp 151 [some (.ref a), l1, l2, l3, l4, l5, l6, l7, l8, l9, l10, l11, l12, l13, l14] (.ref a :: st) S V Q := xi (show decode cL_addsUp 150 = .ok (.aload_n 0, 1) by decide +kernel) rfl
theorem pL_addsUp_151 : xX E mL_addsUp 151 [l0, l1, l2, l3, l4, l5, l6, l7, l8, l9, some (.int x), l11, l12, l13, l14] st S V Q ↔ xX E mL_addsUp 153 [l0, l1, l2, l3, l4, l5, l6, l7, l8, l9, some (.int x), l11, l12, l13, l14] (.int x :: st) S V Q := xi (show decode cL_addsUp 151 = .ok (.iload 10, 2) by decide +kernel) rfl
theorem pL_addsUp_153 : xX E mL_addsUp 153 [l0, l1, l2, l3, l4, l5, l6, l7, l8, l9, l10, l11, l12, l13, l14] st S V Q ↔ xX E mL_addsUp 155 [l0, l1, l2, l3, l4, l5, l6, l7, l8, l9, l10, l11, l12, l13, l14] (.int (nI 11) :: st) S V Q := xi (show decode cL_addsUp 153 = .ok (.bipush 11, 2) by decide +kernel) rfl
theorem pL_addsUp_155 {x0 : Int32} {x1 : Int32} (h : xkd S a = 5) (hc : xcat st ≤ 8) : xX E mL_addsUp 155 [l0, l1, l2, l3, l4, l5, l6, l7, l8, l9, l10, l11, l12, l13, l14] (.int x1 :: .int x0 :: .ref a :: st) S V Q ↔ xC E mX4_of [.ref a, .int x0, .int x1] S V (fun v S V => xX E mL_addsUp 158 [l0, l1, l2, l3, l4, l5, l6, l7, l8, l9, l10, l11, l12, l13, l14] (v.toList ++ st) S V Q) := xi_callV (as := [.int x0, .int x1]) (show decode cL_addsUp 155 = .ok (.invokevirtual 18, 3) by decide +kernel) xct_6_18 rfl rfl (by decide) (Nat.le_of_ble_eq_true rfl) rfl h hc
theorem pL_addsUp_158 : xX E mL_addsUp 158 [l0, l1, l2, l3, l4, l5, l6, l7, l8, l9, l10, l11, l12, l13, l14] (.int y :: .int x :: st) S V Q ↔ xX E mL_addsUp 159 [l0, l1, l2, l3, l4, l5, l6, l7, l8, l9, l10, l11, l12, l13, l14] (.int (x + y) :: st) S V Q := xi (show decode cL_addsUp 158 = .ok (.iadd, 1) by decide +kernel) rfl
theorem pL_addsUp_159 (h : xnl l2 = true) : xX E mL_addsUp 159 [l0, l1, l2, l3, l4, l5, l6, l7, l8, l9, l10, l11, l12, l13, l14] (.int x :: st) S V Q ↔ xX E mL_addsUp 160 [l0, l1, l2, some (.int x), l4, l5, l6, l7, l8, l9, l10, l11, l12, l13, l14] st S V Q := xi_st1 (j := 2) (v := .int x) (show decode cL_addsUp 159 = .ok (.istore_n 3, 1) by decide +kernel) rfl h rfl rfl
theorem pL_addsUp_160 : xX E mL_addsUp 160 [l0, l1, l2, l3, some (.int x), l5, l6, l7, l8, l9, l10, l11, l12, l13, l14] st S V Q ↔ xX E mL_addsUp 162 [l0, l1, l2, l3, some (.int x), l5, l6, l7, l8, l9, l10, l11, l12, l13, l14] (.int x :: st) S V Q := xi (show decode cL_addsUp 160 = .ok (.iload 4, 2) by decide +kernel) rfl
theorem pL_addsUp_162 : xX E mL_addsUp 162 [some (.ref a), l1, l2, l3, l4, l5, l6, l7, l8, l9, l10, l11, l12, l13, l14] st S V Q ↔ xX E mL_addsUp 163 [some (.ref a), l1, l2, l3, l4, l5, l6, l7, l8, l9, l10, l11, l12, l13, l14] (.ref a :: st) S V Q := xi (show decode cL_addsUp 162 = .ok (.aload_n 0, 1) by decide +kernel) rfl
theorem pL_addsUp_163 : xX E mL_addsUp 163 [l0, l1, l2, l3, l4, l5, l6, l7, l8, l9, some (.int x), l11, l12, l13, l14] st S V Q ↔ xX E mL_addsUp 165 [l0, l1, l2, l3, l4, l5, l6, l7, l8, l9, some (.int x), l11, l12, l13, l14] (.int x :: st) S V Q := xi (show decode cL_addsUp 163 = .ok (.iload 10, 2) by decide +kernel) rfl
theorem pL_addsUp_165 : xX E mL_addsUp 165 [l0, l1, l2, l3, l4, l5, l6, l7, l8, l9, l10, l11, l12, l13, l14] st S V Q ↔ xX E mL_addsUp 167 [l0, l1, l2, l3, l4, l5, l6, l7, l8, l9, l10, l11, l12, l13, l14] (.int (nI 13) :: st) S V Q := xi (show decode cL_addsUp 165 = .ok (.bipush 13, 2) by decide +kernel) rfl
theorem pL_addsUp_167 {x0 : Int32} {x1 : Int32} (h : xkd S a = 5) (hc : xcat st ≤ 8) : xX E mL_addsUp 167 [l0, l1, l2, l3, l4, l5, l6, l7, l8, l9, l10, l11, l12, l13, l14] (.int x1 :: .int x0 :: .ref a :: st) S V Q ↔ xC E mX4_of [.ref a, .int x0, .int x1] S V (fun v S V => xX E mL_addsUp 170 [l0, l1, l2, l3, l4, l5, l6, l7, l8, l9, l10, l11, l12, l13, l14] (v.toList ++ st) S V Q) := xi_callV (as := [.int x0, .int x1]) (show decode cL_addsUp 167 = .ok (.invokevirtual 18, 3) by decide +kernel) xct_6_18 rfl rfl (by decide) (Nat.le_of_ble_eq_true rfl) rfl h hc
theorem pL_addsUp_170 : xX E mL_addsUp 170 [l0, l1, l2, l3, l4, l5, l6, l7, l8, l9, l10, l11, l12, l13, l14] (.int y :: .int x :: st) S V Q ↔ xX E mL_addsUp 171 [l0, l1, l2, l3, l4, l5, l6, l7, l8, l9, l10, l11, l12, l13, l14] (.int (x + y) :: st) S V Q := xi (show decode cL_addsUp 170 = .ok (.iadd, 1) by decide +kernel) rfl
theorem pL_addsUp_171 (h : xnl l3 = true) : xX E mL_addsUp 171 [l0, l1, l2, l3, l4, l5, l6, l7, l8, l9, l10, l11, l12, l13, l14] (.int x :: st) S V Q ↔ xX E mL_addsUp 173 [l0, l1, l2, l3, some (.int x), l5, l6, l7, l8, l9, l10, l11, l12, l13, l14] st S V Q := xi_st1 (j := 3) (v := .int x) (show decode cL_addsUp 171 = .ok (.istore 4, 2) by decide +kernel) rfl h rfl rfl
theorem pL_addsUp_173 : xX E mL_addsUp 173 [l0, l1, l2, l3, l4, some (.int x), l6, l7, l8, l9, l10, l11, l12, l13, l14] st S V Q ↔ xX E mL_addsUp 175 [l0, l1, l2, l3, l4, some (.int x), l6, l7, l8, l9, l10, l11, l12, l13, l14] (.int x :: st) S V Q := xi (show decode cL_addsUp 173 = .ok (.iload 5, 2) by decide +kernel) rfl
theorem pL_addsUp_175 : xX E mL_addsUp 175 [l0, l1, l2, l3, l4, l5, l6, l7, l8, l9, l10, some (.int x), l12, l13, l14] st S V Q ↔ xX E mL_addsUp 177 [l0, l1, l2, l3, l4, l5, l6, l7, l8, l9, l10, some (.int x), l12, l13, l14] (.int x :: st) S V Q := xi (show decode cL_addsUp 175 = .ok (.iload 11, 2) by decide +kernel) rfl
theorem pL_addsUp_177 : xX E mL_addsUp 177 [l0, l1, l2, l3, l4, l5, l6, l7, l8, l9, l10, l11, l12, l13, l14] (.int x :: st) S V Q ↔ if ¬ x = nI 0 then xX E mL_addsUp 184 [l0, l1, l2, l3, l4, l5, l6, l7, l8, l9, l10, l11, l12, l13, l14] st S V Q else xX E mL_addsUp 180 [l0, l1, l2, l3, l4, l5, l6, l7, l8, l9, l10, l11, l12, l13, l14] st S V Q := xi_if (show decode cL_addsUp 177 = .ok (.ifCond .ne 7, 3) by decide +kernel) (by decide) xcb_ne
theorem pL_addsUp_180 : xX E mL_addsUp 180 [l0, l1, l2, l3, l4, l5, l6, l7, l8, l9, l10, l11, l12, l13, l14] st S V Q ↔ xX E mL_addsUp 181 [l0, l1, l2, l3, l4, l5, l6, l7, l8, l9, l10, l11, l12, l13, l14] (.int (nI 1) :: st) S V Q := xi (show decode cL_addsUp 180 = .ok (.iconst 1, 1) by decide +kernel) rfl
theorem pL_addsUp_181 : xX E mL_addsUp 181 [l0, l1, l2, l3, l4, l5, l6, l7, l8, l9, l10, l11, l12, l13, l14] st S V Q ↔ xX E mL_addsUp 185 [l0, l1, l2, l3, l4, l5, l6, l7, l8, l9, l10, l11, l12, l13, l14] st S V Q := xi_goto (show decode cL_addsUp 181 = .ok (.goto 4, 3) by decide +kernel) (by decide)
theorem pL_addsUp_184 : xX E mL_addsUp 184 [l0, l1, l2, l3, l4, l5, l6, l7, l8, l9, l10, l11, l12, l13, l14] st S V Q ↔ xX E mL_addsUp 185 [l0, l1, l2, l3, l4, l5, l6, l7, l8, l9, l10, l11, l12, l13, l14] (.int (nI 0) :: st) S V Q := xi (show decode cL_addsUp 184 = .ok (.iconst 0, 1) by decide +kernel) rfl
theorem pL_addsUp_185 : xX E mL_addsUp 185 [l0, l1, l2, l3, l4, l5, l6, l7, l8, l9, l10, l11, l12, l13, l14] (.int y :: .int x :: st) S V Q ↔ xX E mL_addsUp 186 [l0, l1, l2, l3, l4, l5, l6, l7, l8, l9, l10, l11, l12, l13, l14] (.int (x + y) :: st) S V Q := xi (show decode cL_addsUp 185 = .ok (.iadd, 1) by decide +kernel) rfl
theorem pL_addsUp_186 (h : xnl l4 = true) : xX E mL_addsUp 186 [l0, l1, l2, l3, l4, l5, l6, l7, l8, l9, l10, l11, l12, l13, l14] (.int x :: st) S V Q ↔ xX E mL_addsUp 188 [l0, l1, l2, l3, l4, some (.int x), l6, l7, l8, l9, l10, l11, l12, l13, l14] st S V Q := xi_st1 (j := 4) (v := .int x) (show decode cL_addsUp 186 = .ok (.istore 5, 2) by decide +kernel) rfl h rfl rfl
theorem pL_addsUp_188 : xX E mL_addsUp 188 [l0, l1, l2, l3, l4, l5, some (.int x), l7, l8, l9, l10, l11, l12, l13, l14] st S V Q ↔ xX E mL_addsUp 190 [l0, l1, l2, l3, l4, l5, some (.int x), l7, l8, l9, l10, l11, l12, l13, l14] (.int x :: st) S V Q := xi (show decode cL_addsUp 188 = .ok (.iload 6, 2) by decide +kernel) rfl
theorem pL_addsUp_190 : xX E mL_addsUp 190 [l0, l1, l2, l3, l4, l5, l6, l7, l8, l9, l10, some (.int x), l12, l13, l14] st S V Q ↔ xX E mL_addsUp 192 [l0, l1, l2, l3, l4, l5, l6, l7, l8, l9, l10, some (.int x), l12, l13, l14] (.int x :: st) S V Q := xi (show decode cL_addsUp 190 = .ok (.iload 11, 2) by decide +kernel) rfl
theorem pL_addsUp_192 : xX E mL_addsUp 192 [l0, l1, l2, l3, l4, l5, l6, l7, l8, l9, l10, l11, l12, l13, l14] st S V Q ↔ xX E mL_addsUp 193 [l0, l1, l2, l3, l4, l5, l6, l7, l8, l9, l10, l11, l12, l13, l14] (.int (nI 1) :: st) S V Q := xi (show decode cL_addsUp 192 = .ok (.iconst 1, 1) by decide +kernel) rfl
theorem pL_addsUp_193 : xX E mL_addsUp 193 [l0, l1, l2, l3, l4, l5, l6, l7, l8, l9, l10, l11, l12, l13, l14] (.int y :: .int x :: st) S V Q ↔ if ¬ x = y then xX E mL_addsUp 203 [l0, l1, l2, l3, l4, l5, l6, l7, l8, l9, l10, l11, l12, l13, l14] st S V Q else xX E mL_addsUp 196 [l0, l1, l2, l3, l4, l5, l6, l7, l8, l9, l10, l11, l12, l13, l14] st S V Q := xi_icmp (show decode cL_addsUp 193 = .ok (.if_icmp .ne 10, 3) by decide +kernel) (by decide) xcb_ne
theorem pL_addsUp_196 : xX E mL_addsUp 196 [l0, l1, l2, l3, l4, l5, l6, l7, l8, l9, l10, l11, l12, l13, l14] st S V Q ↔ xX E mL_addsUp 197 [l0, l1, l2, l3, l4, l5, l6, l7, l8, l9, l10, l11, l12, l13, l14] (.int (nI 1) :: st) S V Q := xi (show decode cL_addsUp 196 = .ok (.iconst 1, 1) by decide +kernel) rfl
theorem pL_addsUp_197 : xX E mL_addsUp 197 [l0, l1, l2, l3, l4, l5, l6, l7, l8, l9, some (.int x), l11, l12, l13, l14] st S V Q ↔ xX E mL_addsUp 199 [l0, l1, l2, l3, l4, l5, l6, l7, l8, l9, some (.int x), l11, l12, l13, l14] (.int x :: st) S V Q := xi (show decode cL_addsUp 197 = .ok (.iload 10, 2) by decide +kernel) rfl
theorem pL_addsUp_199 : xX E mL_addsUp 199 [l0, l1, l2, l3, l4, l5, l6, l7, l8, l9, l10, l11, l12, l13, l14] (.int y :: .int x :: st) S V Q ↔ xX E mL_addsUp 200 [l0, l1, l2, l3, l4, l5, l6, l7, l8, l9, l10, l11, l12, l13, l14] (.int (x <<< (y &&& 31)) :: st) S V Q := xi (show decode cL_addsUp 199 = .ok (.ishl, 1) by decide +kernel) rfl
theorem pL_addsUp_200 : xX E mL_addsUp 200 [l0, l1, l2, l3, l4, l5, l6, l7, l8, l9, l10, l11, l12, l13, l14] st S V Q ↔ xX E mL_addsUp 204 [l0, l1, l2, l3, l4, l5, l6, l7, l8, l9, l10, l11, l12, l13, l14] st S V Q := xi_goto (show decode cL_addsUp 200 = .ok (.goto 4, 3) by decide +kernel) (by decide)
theorem pL_addsUp_203 : xX E mL_addsUp 203 [l0, l1, l2, l3, l4, l5, l6, l7, l8, l9, l10, l11, l12, l13, l14] st S V Q ↔ xX E mL_addsUp 204 [l0, l1, l2, l3, l4, l5, l6, l7, l8, l9, l10, l11, l12, l13, l14] (.int (nI 0) :: st) S V Q := xi (show decode cL_addsUp 203 = .ok (.iconst 0, 1) by decide +kernel) rfl
theorem pL_addsUp_204 : xX E mL_addsUp 204 [l0, l1, l2, l3, l4, l5, l6, l7, l8, l9, l10, l11, l12, l13, l14] (.int y :: .int x :: st) S V Q ↔ xX E mL_addsUp 205 [l0, l1, l2, l3, l4, l5, l6, l7, l8, l9, l10, l11, l12, l13, l14] (.int (x ||| y) :: st) S V Q := xi (show decode cL_addsUp 204 = .ok (.ior, 1) by decide +kernel) rfl
theorem pL_addsUp_205 (h : xnl l5 = true) : xX E mL_addsUp 205 [l0, l1, l2, l3, l4, l5, l6, l7, l8, l9, l10, l11, l12, l13, l14] (.int x :: st) S V Q ↔ xX E mL_addsUp 207 [l0, l1, l2, l3, l4, l5, some (.int x), l7, l8, l9, l10, l11, l12, l13, l14] st S V Q := xi_st1 (j := 5) (v := .int x) (show decode cL_addsUp 205 = .ok (.istore 6, 2) by decide +kernel) rfl h rfl rfl
theorem pL_addsUp_207 : xX E mL_addsUp 207 [l0, l1, l2, l3, l4, l5, l6, some (.int x), l8, l9, l10, l11, l12, l13, l14] st S V Q ↔ xX E mL_addsUp 209 [l0, l1, l2, l3, l4, l5, l6, some (.int x), l8, l9, l10, l11, l12, l13, l14] (.int x :: st) S V Q := xi (show decode cL_addsUp 207 = .ok (.iload 7, 2) by decide +kernel) rfl
theorem pL_addsUp_209 : xX E mL_addsUp 209 [some (.ref a), l1, l2, l3, l4, l5, l6, l7, l8, l9, l10, l11, l12, l13, l14] st S V Q ↔ xX E mL_addsUp 210 [some (.ref a), l1, l2, l3, l4, l5, l6, l7, l8, l9, l10, l11, l12, l13, l14] (.ref a :: st) S V Q := xi (show decode cL_addsUp 209 = .ok (.aload_n 0, 1) by decide +kernel) rfl
theorem pL_addsUp_210 : xX E mL_addsUp 210 [l0, l1, l2, l3, l4, l5, l6, l7, l8, l9, some (.int x), l11, l12, l13, l14] st S V Q ↔ xX E mL_addsUp 212 [l0, l1, l2, l3, l4, l5, l6, l7, l8, l9, some (.int x), l11, l12, l13, l14] (.int x :: st) S V Q := xi (show decode cL_addsUp 210 = .ok (.iload 10, 2) by decide +kernel) rfl
theorem pL_addsUp_212 : xX E mL_addsUp 212 [l0, l1, l2, l3, l4, l5, l6, l7, l8, l9, l10, l11, l12, l13, l14] st S V Q ↔ xX E mL_addsUp 214 [l0, l1, l2, l3, l4, l5, l6, l7, l8, l9, l10, l11, l12, l13, l14] (.int (nI 9) :: st) S V Q := xi (show decode cL_addsUp 212 = .ok (.bipush 9, 2) by decide +kernel) rfl
theorem pL_addsUp_214 {x0 : Int32} {x1 : Int32} (h : xkd S a = 5) (hc : xcat st ≤ 8) : xX E mL_addsUp 214 [l0, l1, l2, l3, l4, l5, l6, l7, l8, l9, l10, l11, l12, l13, l14] (.int x1 :: .int x0 :: .ref a :: st) S V Q ↔ xC E mX4_of [.ref a, .int x0, .int x1] S V (fun v S V => xX E mL_addsUp 217 [l0, l1, l2, l3, l4, l5, l6, l7, l8, l9, l10, l11, l12, l13, l14] (v.toList ++ st) S V Q) := xi_callV (as := [.int x0, .int x1]) (show decode cL_addsUp 214 = .ok (.invokevirtual 18, 3) by decide +kernel) xct_6_18 rfl rfl (by decide) (Nat.le_of_ble_eq_true rfl) rfl h hc
theorem pL_addsUp_217 : xX E mL_addsUp 217 [l0, l1, l2, l3, l4, l5, l6, l7, l8, l9, some (.int x), l11, l12, l13, l14] st S V Q ↔ xX E mL_addsUp 219 [l0, l1, l2, l3, l4, l5, l6, l7, l8, l9, some (.int x), l11, l12, l13, l14] (.int x :: st) S V Q := xi (show decode cL_addsUp 217 = .ok (.iload 10, 2) by decide +kernel) rfl
theorem pL_addsUp_219 : xX E mL_addsUp 219 [l0, l1, l2, l3, l4, l5, l6, l7, l8, l9, l10, l11, l12, l13, l14] (.int y :: .int x :: st) S V Q ↔ xX E mL_addsUp 220 [l0, l1, l2, l3, l4, l5, l6, l7, l8, l9, l10, l11, l12, l13, l14] (.int (x <<< (y &&& 31)) :: st) S V Q := xi (show decode cL_addsUp 219 = .ok (.ishl, 1) by decide +kernel) rfl
theorem pL_addsUp_220 : xX E mL_addsUp 220 [l0, l1, l2, l3, l4, l5, l6, l7, l8, l9, l10, l11, l12, l13, l14] (.int y :: .int x :: st) S V Q ↔ xX E mL_addsUp 221 [l0, l1, l2, l3, l4, l5, l6, l7, l8, l9, l10, l11, l12, l13, l14] (.int (x ||| y) :: st) S V Q := xi (show decode cL_addsUp 220 = .ok (.ior, 1) by decide +kernel) rfl
theorem pL_addsUp_221 (h : xnl l6 = true) : xX E mL_addsUp 221 [l0, l1, l2, l3, l4, l5, l6, l7, l8, l9, l10, l11, l12, l13, l14] (.int x :: st) S V Q ↔ xX E mL_addsUp 223 [l0, l1, l2, l3, l4, l5, l6, some (.int x), l8, l9, l10, l11, l12, l13, l14] st S V Q := xi_st1 (j := 6) (v := .int x) (show decode cL_addsUp 221 = .ok (.istore 7, 2) by decide +kernel) rfl h rfl rfl
theorem pL_addsUp_223 : xX E mL_addsUp 223 [l0, l1, l2, l3, l4, l5, l6, l7, l8, some (.int x), l10, l11, l12, l13, l14] st S V Q ↔ xX E mL_addsUp 225 [l0, l1, l2, l3, l4, l5, l6, l7, l8, some (.int x), l10, l11, l12, l13, l14] (.int x :: st) S V Q := xi (show decode cL_addsUp 223 = .ok (.iload 9, 2) by decide +kernel) rfl
theorem pL_addsUp_225 : xX E mL_addsUp 225 [l0, l1, l2, l3, l4, l5, l6, l7, l8, l9, l10, l11, l12, l13, l14] (.int x :: st) S V Q ↔ if ¬ x = nI 0 then xX E mL_addsUp 234 [l0, l1, l2, l3, l4, l5, l6, l7, l8, l9, l10, l11, l12, l13, l14] st S V Q else xX E mL_addsUp 228 [l0, l1, l2, l3, l4, l5, l6, l7, l8, l9, l10, l11, l12, l13, l14] st S V Q := xi_if (show decode cL_addsUp 225 = .ok (.ifCond .ne 9, 3) by decide +kernel) (by decide) xcb_ne
theorem pL_addsUp_228 : xX E mL_addsUp 228 [l0, l1, l2, l3, l4, l5, l6, l7, l8, l9, l10, some (.int x), l12, l13, l14] st S V Q ↔ xX E mL_addsUp 230 [l0, l1, l2, l3, l4, l5, l6, l7, l8, l9, l10, some (.int x), l12, l13, l14] (.int x :: st) S V Q := xi (show decode cL_addsUp 228 = .ok (.iload 11, 2) by decide +kernel) rfl
theorem pL_addsUp_230 : xX E mL_addsUp 230 [l0, l1, l2, l3, l4, l5, l6, l7, l8, l9, l10, l11, l12, l13, l14] st S V Q ↔ xX E mL_addsUp 231 [l0, l1, l2, l3, l4, l5, l6, l7, l8, l9, l10, l11, l12, l13, l14] (.int (nI 2) :: st) S V Q := xi (show decode cL_addsUp 230 = .ok (.iconst 2, 1) by decide +kernel) rfl
theorem pL_addsUp_231 : xX E mL_addsUp 231 [l0, l1, l2, l3, l4, l5, l6, l7, l8, l9, l10, l11, l12, l13, l14] (.int y :: .int x :: st) S V Q ↔ if ¬ x = y then xX E mL_addsUp 238 [l0, l1, l2, l3, l4, l5, l6, l7, l8, l9, l10, l11, l12, l13, l14] st S V Q else xX E mL_addsUp 234 [l0, l1, l2, l3, l4, l5, l6, l7, l8, l9, l10, l11, l12, l13, l14] st S V Q := xi_icmp (show decode cL_addsUp 231 = .ok (.if_icmp .ne 7, 3) by decide +kernel) (by decide) xcb_ne
theorem pL_addsUp_234 : xX E mL_addsUp 234 [l0, l1, l2, l3, l4, l5, l6, l7, l8, l9, l10, l11, l12, l13, l14] st S V Q ↔ xX E mL_addsUp 235 [l0, l1, l2, l3, l4, l5, l6, l7, l8, l9, l10, l11, l12, l13, l14] (.int (nI 1) :: st) S V Q := xi (show decode cL_addsUp 234 = .ok (.iconst 1, 1) by decide +kernel) rfl
theorem pL_addsUp_235 : xX E mL_addsUp 235 [l0, l1, l2, l3, l4, l5, l6, l7, l8, l9, l10, l11, l12, l13, l14] st S V Q ↔ xX E mL_addsUp 239 [l0, l1, l2, l3, l4, l5, l6, l7, l8, l9, l10, l11, l12, l13, l14] st S V Q := xi_goto (show decode cL_addsUp 235 = .ok (.goto 4, 3) by decide +kernel) (by decide)
theorem pL_addsUp_238 : xX E mL_addsUp 238 [l0, l1, l2, l3, l4, l5, l6, l7, l8, l9, l10, l11, l12, l13, l14] st S V Q ↔ xX E mL_addsUp 239 [l0, l1, l2, l3, l4, l5, l6, l7, l8, l9, l10, l11, l12, l13, l14] (.int (nI 0) :: st) S V Q := xi (show decode cL_addsUp 238 = .ok (.iconst 0, 1) by decide +kernel) rfl
theorem pL_addsUp_239 (h : xnl l8 = true) : xX E mL_addsUp 239 [l0, l1, l2, l3, l4, l5, l6, l7, l8, l9, l10, l11, l12, l13, l14] (.int x :: st) S V Q ↔ xX E mL_addsUp 241 [l0, l1, l2, l3, l4, l5, l6, l7, l8, some (.int x), l10, l11, l12, l13, l14] st S V Q := xi_st1 (j := 8) (v := .int x) (show decode cL_addsUp 239 = .ok (.istore 9, 2) by decide +kernel) rfl h rfl rfl
theorem pL_addsUp_241 : xX E mL_addsUp 241 [l0, l1, l2, l3, l4, l5, l6, l7, some (.int x), l9, l10, l11, l12, l13, l14] st S V Q ↔ xX E mL_addsUp 243 [l0, l1, l2, l3, l4, l5, l6, l7, some (.int x), l9, l10, l11, l12, l13, l14] (.int x :: st) S V Q := xi (show decode cL_addsUp 241 = .ok (.iload 8, 2) by decide +kernel) rfl
theorem pL_addsUp_243 : xX E mL_addsUp 243 [l0, l1, l2, l3, l4, l5, l6, l7, l8, l9, l10, l11, l12, l13, l14] (.int x :: st) S V Q ↔ if ¬ x = nI 0 then xX E mL_addsUp 269 [l0, l1, l2, l3, l4, l5, l6, l7, l8, l9, l10, l11, l12, l13, l14] st S V Q else xX E mL_addsUp 246 [l0, l1, l2, l3, l4, l5, l6, l7, l8, l9, l10, l11, l12, l13, l14] st S V Q := xi_if (show decode cL_addsUp 243 = .ok (.ifCond .ne 26, 3) by decide +kernel) (by decide) xcb_ne
theorem pL_addsUp_246 : xX E mL_addsUp 246 [l0, l1, l2, l3, l4, l5, l6, l7, l8, l9, l10, some (.int x), l12, l13, l14] st S V Q ↔ xX E mL_addsUp 248 [l0, l1, l2, l3, l4, l5, l6, l7, l8, l9, l10, some (.int x), l12, l13, l14] (.int x :: st) S V Q := xi (show decode cL_addsUp 246 = .ok (.iload 11, 2) by decide +kernel) rfl
theorem pL_addsUp_248 : xX E mL_addsUp 248 [l0, l1, l2, l3, l4, l5, l6, l7, l8, l9, l10, l11, l12, l13, l14] st S V Q ↔ xX E mL_addsUp 249 [l0, l1, l2, l3, l4, l5, l6, l7, l8, l9, l10, l11, l12, l13, l14] (.int (nI 2) :: st) S V Q := xi (show decode cL_addsUp 248 = .ok (.iconst 2, 1) by decide +kernel) rfl
theorem pL_addsUp_249 : xX E mL_addsUp 249 [l0, l1, l2, l3, l4, l5, l6, l7, l8, l9, l10, l11, l12, l13, l14] (.int y :: .int x :: st) S V Q ↔ if x ≤ y then xX E mL_addsUp 273 [l0, l1, l2, l3, l4, l5, l6, l7, l8, l9, l10, l11, l12, l13, l14] st S V Q else xX E mL_addsUp 252 [l0, l1, l2, l3, l4, l5, l6, l7, l8, l9, l10, l11, l12, l13, l14] st S V Q := xi_icmp (show decode cL_addsUp 249 = .ok (.if_icmp .le 24, 3) by decide +kernel) (by decide) xcb_le
theorem pL_addsUp_252 : xX E mL_addsUp 252 [l0, l1, l2, l3, l4, l5, l6, l7, l8, l9, l10, l11, some (.int x), l13, l14] st S V Q ↔ xX E mL_addsUp 254 [l0, l1, l2, l3, l4, l5, l6, l7, l8, l9, l10, l11, some (.int x), l13, l14] (.int x :: st) S V Q := xi (show decode cL_addsUp 252 = .ok (.iload 12, 2) by decide +kernel) rfl
theorem pL_addsUp_254 : xX E mL_addsUp 254 [l0, l1, l2, l3, l4, l5, l6, l7, l8, l9, l10, l11, l12, l13, l14] (.int x :: st) S V Q ↔ if x = nI 0 then xX E mL_addsUp 269 [l0, l1, l2, l3, l4, l5, l6, l7, l8, l9, l10, l11, l12, l13, l14] st S V Q else xX E mL_addsUp 257 [l0, l1, l2, l3, l4, l5, l6, l7, l8, l9, l10, l11, l12, l13, l14] st S V Q := xi_if (show decode cL_addsUp 254 = .ok (.ifCond .eq 15, 3) by decide +kernel) (by decide) xcb_eq
theorem pL_addsUp_257 : xX E mL_addsUp 257 [some (.ref a), l1, l2, l3, l4, l5, l6, l7, l8, l9, l10, l11, l12, l13, l14] st S V Q ↔ xX E mL_addsUp 258 [some (.ref a), l1, l2, l3, l4, l5, l6, l7, l8, l9, l10, l11, l12, l13, l14] (.ref a :: st) S V Q := xi (show decode cL_addsUp 257 = .ok (.aload_n 0, 1) by decide +kernel) rfl
theorem pL_addsUp_258 : xX E mL_addsUp 258 [l0, l1, l2, l3, l4, l5, l6, l7, l8, l9, some (.int x), l11, l12, l13, l14] st S V Q ↔ xX E mL_addsUp 260 [l0, l1, l2, l3, l4, l5, l6, l7, l8, l9, some (.int x), l11, l12, l13, l14] (.int x :: st) S V Q := xi (show decode cL_addsUp 258 = .ok (.iload 10, 2) by decide +kernel) rfl
theorem pL_addsUp_260 : xX E mL_addsUp 260 [l0, l1, l2, l3, l4, l5, l6, l7, l8, l9, l10, l11, l12, l13, l14] st S V Q ↔ xX E mL_addsUp 262 [l0, l1, l2, l3, l4, l5, l6, l7, l8, l9, l10, l11, l12, l13, l14] (.int (nI 9) :: st) S V Q := xi (show decode cL_addsUp 260 = .ok (.bipush 9, 2) by decide +kernel) rfl
theorem pL_addsUp_262 {x0 : Int32} {x1 : Int32} (h : xkd S a = 5) (hc : xcat st ≤ 8) : xX E mL_addsUp 262 [l0, l1, l2, l3, l4, l5, l6, l7, l8, l9, l10, l11, l12, l13, l14] (.int x1 :: .int x0 :: .ref a :: st) S V Q ↔ xC E mX4_of [.ref a, .int x0, .int x1] S V (fun v S V => xX E mL_addsUp 265 [l0, l1, l2, l3, l4, l5, l6, l7, l8, l9, l10, l11, l12, l13, l14] (v.toList ++ st) S V Q) := xi_callV (as := [.int x0, .int x1]) (show decode cL_addsUp 262 = .ok (.invokevirtual 18, 3) by decide +kernel) xct_6_18 rfl rfl (by decide) (Nat.le_of_ble_eq_true rfl) rfl h hc
theorem pL_addsUp_265 : xX E mL_addsUp 265 [l0, l1, l2, l3, l4, l5, l6, l7, l8, l9, l10, l11, l12, l13, l14] st S V Q ↔ xX E mL_addsUp 266 [l0, l1, l2, l3, l4, l5, l6, l7, l8, l9, l10, l11, l12, l13, l14] (.int (nI 1) :: st) S V Q := xi (show decode cL_addsUp 265 = .ok (.iconst 1, 1) by decide +kernel) rfl
theorem pL_addsUp_266 : xX E mL_addsUp 266 [l0, l1, l2, l3, l4, l5, l6, l7, l8, l9, l10, l11, l12, l13, l14] (.int y :: .int x :: st) S V Q ↔ if ¬ x = y then xX E mL_addsUp 273 [l0, l1, l2, l3, l4, l5, l6, l7, l8, l9, l10, l11, l12, l13, l14] st S V Q else xX E mL_addsUp 269 [l0, l1, l2, l3, l4, l5, l6, l7, l8, l9, l10, l11, l12, l13, l14] st S V Q := xi_icmp (show decode cL_addsUp 266 = .ok (.if_icmp .ne 7, 3) by decide +kernel) (by decide) xcb_ne
theorem pL_addsUp_269 : xX E mL_addsUp 269 [l0, l1, l2, l3, l4, l5, l6, l7, l8, l9, l10, l11, l12, l13, l14] st S V Q ↔ xX E mL_addsUp 270 [l0, l1, l2, l3, l4, l5, l6, l7, l8, l9, l10, l11, l12, l13, l14] (.int (nI 1) :: st) S V Q := xi (show decode cL_addsUp 269 = .ok (.iconst 1, 1) by decide +kernel) rfl
theorem pL_addsUp_270 : xX E mL_addsUp 270 [l0, l1, l2, l3, l4, l5, l6, l7, l8, l9, l10, l11, l12, l13, l14] st S V Q ↔ xX E mL_addsUp 274 [l0, l1, l2, l3, l4, l5, l6, l7, l8, l9, l10, l11, l12, l13, l14] st S V Q := xi_goto (show decode cL_addsUp 270 = .ok (.goto 4, 3) by decide +kernel) (by decide)
theorem pL_addsUp_273 : xX E mL_addsUp 273 [l0, l1, l2, l3, l4, l5, l6, l7, l8, l9, l10, l11, l12, l13, l14] st S V Q ↔ xX E mL_addsUp 274 [l0, l1, l2, l3, l4, l5, l6, l7, l8, l9, l10, l11, l12, l13, l14] (.int (nI 0) :: st) S V Q := xi (show decode cL_addsUp 273 = .ok (.iconst 0, 1) by decide +kernel) rfl
theorem pL_addsUp_274 (h : xnl l7 = true) : xX E mL_addsUp 274 [l0, l1, l2, l3, l4, l5, l6, l7, l8, l9, l10, l11, l12, l13, l14] (.int x :: st) S V Q ↔ xX E mL_addsUp 276 [l0, l1, l2, l3, l4, l5, l6, l7, some (.int x), l9, l10, l11, l12, l13, l14] st S V Q := xi_st1 (j := 7) (v := .int x) (show decode cL_addsUp 274 = .ok (.istore 8, 2) by decide +kernel) rfl h rfl rfl
theorem pL_addsUp_276 : xX E mL_addsUp 276 [l0, l1, l2, l3, l4, l5, l6, l7, l8, l9, l10, l11, l12, l13, l14] st S V Q ↔ xX E mL_addsUp 277 [l0, l1, l2, l3, l4, l5, l6, l7, l8, l9, l10, l11, l12, l13, l14] (.int (nI 0) :: st) S V Q := xi (show decode cL_addsUp 276 = .ok (.iconst 0, 1) by decide +kernel) rfl
theorem pL_addsUp_277 (h : xnl l12 = true) : xX E mL_addsUp 277 [l0, l1, l2, l3, l4, l5, l6, l7, l8, l9, l10, l11, l12, l13, l14] (.int x :: st) S V Q ↔ xX E mL_addsUp 279 [l0, l1, l2, l3, l4, l5, l6, l7, l8, l9, l10, l11, l12, some (.int x), l14] st S V Q := xi_st1 (j := 12) (v := .int x) (show decode cL_addsUp 277 = .ok (.istore 13, 2) by decide +kernel) rfl h rfl rfl
theorem pL_addsUp_279 : xX E mL_addsUp 279 [l0, l1, l2, l3, l4, l5, l6, l7, l8, l9, l10, l11, l12, some (.int x), l14] st S V Q ↔ xX E mL_addsUp 281 [l0, l1, l2, l3, l4, l5, l6, l7, l8, l9, l10, l11, l12, some (.int x), l14] (.int x :: st) S V Q := xi (show decode cL_addsUp 279 = .ok (.iload 13, 2) by decide +kernel) rfl
theorem pL_addsUp_281 : xX E mL_addsUp 281 [l0, l1, l2, l3, l4, l5, l6, l7, l8, l9, l10, l11, l12, l13, l14] st S V Q ↔ xX E mL_addsUp 283 [l0, l1, l2, l3, l4, l5, l6, l7, l8, l9, l10, l11, l12, l13, l14] (.int (nI 8) :: st) S V Q := xi (show decode cL_addsUp 281 = .ok (.bipush 8, 2) by decide +kernel) rfl
theorem pL_addsUp_283 : xX E mL_addsUp 283 [l0, l1, l2, l3, l4, l5, l6, l7, l8, l9, l10, l11, l12, l13, l14] (.int y :: .int x :: st) S V Q ↔ if y ≤ x then xX E mL_addsUp 362 [l0, l1, l2, l3, l4, l5, l6, l7, l8, l9, l10, l11, l12, l13, l14] st S V Q else xX E mL_addsUp 286 [l0, l1, l2, l3, l4, l5, l6, l7, l8, l9, l10, l11, l12, l13, l14] st S V Q := xi_icmp (show decode cL_addsUp 283 = .ok (.if_icmp .ge 79, 3) by decide +kernel) (by decide) xcb_ge
theorem pL_addsUp_286 : xX E mL_addsUp 286 [l0, l1, l2, l3, l4, l5, l6, l7, l8, l9, l10, l11, some (.int x), l13, l14] st S V Q ↔ xX E mL_addsUp 288 [l0, l1, l2, l3, l4, l5, l6, l7, l8, l9, l10, l11, some (.int x), l13, l14] (.int x :: st) S V Q := xi (show decode cL_addsUp 286 = .ok (.iload 12, 2) by decide +kernel) rfl
theorem pL_addsUp_288 : xX E mL_addsUp 288 [l0, l1, l2, l3, l4, l5, l6, l7, l8, l9, l10, l11, l12, some (.int x), l14] st S V Q ↔ xX E mL_addsUp 290 [l0, l1, l2, l3, l4, l5, l6, l7, l8, l9, l10, l11, l12, some (.int x), l14] (.int x :: st) S V Q := xi (show decode cL_addsUp 288 = .ok (.iload 13, 2) by decide +kernel) rfl
theorem pL_addsUp_290 : xX E mL_addsUp 290 [l0, l1, l2, l3, l4, l5, l6, l7, l8, l9, l10, l11, l12, l13, l14] (.int y :: .int x :: st) S V Q ↔ xX E mL_addsUp 291 [l0, l1, l2, l3, l4, l5, l6, l7, l8, l9, l10, l11, l12, l13, l14] (.int (x >>> (y &&& 31)) :: st) S V Q := xi (show decode cL_addsUp 290 = .ok (.ishr, 1) by decide +kernel) rfl
theorem pL_addsUp_291 : xX E mL_addsUp 291 [l0, l1, l2, l3, l4, l5, l6, l7, l8, l9, l10, l11, l12, l13, l14] st S V Q ↔ xX E mL_addsUp 292 [l0, l1, l2, l3, l4, l5, l6, l7, l8, l9, l10, l11, l12, l13, l14] (.int (nI 1) :: st) S V Q := xi (show decode cL_addsUp 291 = .ok (.iconst 1, 1) by decide +kernel) rfl
theorem pL_addsUp_292 : xX E mL_addsUp 292 [l0, l1, l2, l3, l4, l5, l6, l7, l8, l9, l10, l11, l12, l13, l14] (.int y :: .int x :: st) S V Q ↔ xX E mL_addsUp 293 [l0, l1, l2, l3, l4, l5, l6, l7, l8, l9, l10, l11, l12, l13, l14] (.int (x &&& y) :: st) S V Q := xi (show decode cL_addsUp 292 = .ok (.iand, 1) by decide +kernel) rfl
theorem pL_addsUp_293 : xX E mL_addsUp 293 [l0, l1, l2, l3, l4, l5, l6, l7, l8, l9, l10, l11, l12, l13, l14] st S V Q ↔ xX E mL_addsUp 294 [l0, l1, l2, l3, l4, l5, l6, l7, l8, l9, l10, l11, l12, l13, l14] (.int (nI 1) :: st) S V Q := xi (show decode cL_addsUp 293 = .ok (.iconst 1, 1) by decide +kernel) rfl
theorem pL_addsUp_294 : xX E mL_addsUp 294 [l0, l1, l2, l3, l4, l5, l6, l7, l8, l9, l10, l11, l12, l13, l14] (.int y :: .int x :: st) S V Q ↔ if ¬ x = y then xX E mL_addsUp 301 [l0, l1, l2, l3, l4, l5, l6, l7, l8, l9, l10, l11, l12, l13, l14] st S V Q else xX E mL_addsUp 297 [l0, l1, l2, l3, l4, l5, l6, l7, l8, l9, l10, l11, l12, l13, l14] st S V Q := xi_icmp (show decode cL_addsUp 294 = .ok (.if_icmp .ne 7, 3) by decide +kernel) (by decide) xcb_ne
theorem pL_addsUp_297 : xX E mL_addsUp 297 [l0, l1, l2, l3, l4, l5, l6, l7, l8, l9, l10, l11, l12, l13, l14] st S V Q ↔ xX E mL_addsUp 298 [l0, l1, l2, l3, l4, l5, l6, l7, l8, l9, l10, l11, l12, l13, l14] (.int (nI 1) :: st) S V Q := xi (show decode cL_addsUp 297 = .ok (.iconst 1, 1) by decide +kernel) rfl
theorem pL_addsUp_298 : xX E mL_addsUp 298 [l0, l1, l2, l3, l4, l5, l6, l7, l8, l9, l10, l11, l12, l13, l14] st S V Q ↔ xX E mL_addsUp 302 [l0, l1, l2, l3, l4, l5, l6, l7, l8, l9, l10, l11, l12, l13, l14] st S V Q := xi_goto (show decode cL_addsUp 298 = .ok (.goto 4, 3) by decide +kernel) (by decide)
theorem pL_addsUp_301 : xX E mL_addsUp 301 [l0, l1, l2, l3, l4, l5, l6, l7, l8, l9, l10, l11, l12, l13, l14] st S V Q ↔ xX E mL_addsUp 302 [l0, l1, l2, l3, l4, l5, l6, l7, l8, l9, l10, l11, l12, l13, l14] (.int (nI 0) :: st) S V Q := xi (show decode cL_addsUp 301 = .ok (.iconst 0, 1) by decide +kernel) rfl
theorem pL_addsUp_302 (h : xnl l13 = true) : xX E mL_addsUp 302 [l0, l1, l2, l3, l4, l5, l6, l7, l8, l9, l10, l11, l12, l13, l14] (.int x :: st) S V Q ↔ xX E mL_addsUp 304 [l0, l1, l2, l3, l4, l5, l6, l7, l8, l9, l10, l11, l12, l13, some (.int x)] st S V Q := xi_st1 (j := 13) (v := .int x) (show decode cL_addsUp 302 = .ok (.istore 14, 2) by decide +kernel) rfl h rfl rfl
theorem pL_addsUp_304 : xX E mL_addsUp 304 [l0, l1, l2, l3, l4, l5, l6, l7, some (.int x), l9, l10, l11, l12, l13, l14] st S V Q ↔ xX E mL_addsUp 306 [l0, l1, l2, l3, l4, l5, l6, l7, some (.int x), l9, l10, l11, l12, l13, l14] (.int x :: st) S V Q := xi (show decode cL_addsUp 304 = .ok (.iload 8, 2) by decide +kernel) rfl
theorem pL_addsUp_306 : xX E mL_addsUp 306 [l0, l1, l2, l3, l4, l5, l6, l7, l8, l9, l10, l11, l12, l13, l14] (.int x :: st) S V Q ↔ if ¬ x = nI 0 then xX E mL_addsUp 325 [l0, l1, l2, l3, l4, l5, l6, l7, l8, l9, l10, l11, l12, l13, l14] st S V Q else xX E mL_addsUp 309 [l0, l1, l2, l3, l4, l5, l6, l7, l8, l9, l10, l11, l12, l13, l14] st S V Q := xi_if (show decode cL_addsUp 306 = .ok (.ifCond .ne 19, 3) by decide +kernel) (by decide) xcb_ne
theorem pL_addsUp_309 : xX E mL_addsUp 309 [l0, l1, l2, l3, l4, l5, l6, l7, l8, l9, l10, l11, l12, l13, some (.int x)] st S V Q ↔ xX E mL_addsUp 311 [l0, l1, l2, l3, l4, l5, l6, l7, l8, l9, l10, l11, l12, l13, some (.int x)] (.int x :: st) S V Q := xi (show decode cL_addsUp 309 = .ok (.iload 14, 2) by decide +kernel) rfl
theorem pL_addsUp_311 : xX E mL_addsUp 311 [l0, l1, l2, l3, l4, l5, l6, l7, l8, l9, l10, l11, l12, l13, l14] (.int x :: st) S V Q ↔ if x = nI 0 then xX E mL_addsUp 329 [l0, l1, l2, l3, l4, l5, l6, l7, l8, l9, l10, l11, l12, l13, l14] st S V Q else xX E mL_addsUp 314 [l0, l1, l2, l3, l4, l5, l6, l7, l8, l9, l10, l11, l12, l13, l14] st S V Q := xi_if (show decode cL_addsUp 311 = .ok (.ifCond .eq 18, 3) by decide +kernel) (by decide) xcb_eq
theorem pL_addsUp_314 : xX E mL_addsUp 314 [some (.ref a), l1, l2, l3, l4, l5, l6, l7, l8, l9, l10, l11, l12, l13, l14] st S V Q ↔ xX E mL_addsUp 315 [some (.ref a), l1, l2, l3, l4, l5, l6, l7, l8, l9, l10, l11, l12, l13, l14] (.ref a :: st) S V Q := xi (show decode cL_addsUp 314 = .ok (.aload_n 0, 1) by decide +kernel) rfl
theorem pL_addsUp_315 : xX E mL_addsUp 315 [l0, l1, l2, l3, l4, l5, l6, l7, l8, l9, l10, l11, l12, some (.int x), l14] st S V Q ↔ xX E mL_addsUp 317 [l0, l1, l2, l3, l4, l5, l6, l7, l8, l9, l10, l11, l12, some (.int x), l14] (.int x :: st) S V Q := xi (show decode cL_addsUp 315 = .ok (.iload 13, 2) by decide +kernel) rfl
theorem pL_addsUp_317 : xX E mL_addsUp 317 [l0, l1, l2, l3, l4, l5, l6, l7, l8, l9, l10, l11, l12, l13, l14] st S V Q ↔ xX E mL_addsUp 319 [l0, l1, l2, l3, l4, l5, l6, l7, l8, l9, l10, l11, l12, l13, l14] (.int (nI 7) :: st) S V Q := xi (show decode cL_addsUp 317 = .ok (.bipush 7, 2) by decide +kernel) rfl
theorem pL_addsUp_319 {x0 : Int32} {x1 : Int32} (h : xkd S a = 5) (hc : xcat st ≤ 8) : xX E mL_addsUp 319 [l0, l1, l2, l3, l4, l5, l6, l7, l8, l9, l10, l11, l12, l13, l14] (.int x1 :: .int x0 :: .ref a :: st) S V Q ↔ xC E mX4_of [.ref a, .int x0, .int x1] S V (fun v S V => xX E mL_addsUp 322 [l0, l1, l2, l3, l4, l5, l6, l7, l8, l9, l10, l11, l12, l13, l14] (v.toList ++ st) S V Q) := xi_callV (as := [.int x0, .int x1]) (show decode cL_addsUp 319 = .ok (.invokevirtual 18, 3) by decide +kernel) xct_6_18 rfl rfl (by decide) (Nat.le_of_ble_eq_true rfl) rfl h hc
theorem pL_addsUp_322 : xX E mL_addsUp 322 [l0, l1, l2, l3, l4, l5, l6, l7, l8, l9, l10, l11, l12, l13, l14] (.int x :: st) S V Q ↔ if ¬ x = nI 0 then xX E mL_addsUp 329 [l0, l1, l2, l3, l4, l5, l6, l7, l8, l9, l10, l11, l12, l13, l14] st S V Q else xX E mL_addsUp 325 [l0, l1, l2, l3, l4, l5, l6, l7, l8, l9, l10, l11, l12, l13, l14] st S V Q := xi_if (show decode cL_addsUp 322 = .ok (.ifCond .ne 7, 3) by decide +kernel) (by decide) xcb_ne
theorem pL_addsUp_325 : xX E mL_addsUp 325 [l0, l1, l2, l3, l4, l5, l6, l7, l8, l9, l10, l11, l12, l13, l14] st S V Q ↔ xX E mL_addsUp 326 [l0, l1, l2, l3, l4, l5, l6, l7, l8, l9, l10, l11, l12, l13, l14] (.int (nI 1) :: st) S V Q := xi (show decode cL_addsUp 325 = .ok (.iconst 1, 1) by decide +kernel) rfl
theorem pL_addsUp_326 : xX E mL_addsUp 326 [l0, l1, l2, l3, l4, l5, l6, l7, l8, l9, l10, l11, l12, l13, l14] st S V Q ↔ xX E mL_addsUp 330 [l0, l1, l2, l3, l4, l5, l6, l7, l8, l9, l10, l11, l12, l13, l14] st S V Q := xi_goto (show decode cL_addsUp 326 = .ok (.goto 4, 3) by decide +kernel) (by decide)
theorem pL_addsUp_329 : xX E mL_addsUp 329 [l0, l1, l2, l3, l4, l5, l6, l7, l8, l9, l10, l11, l12, l13, l14] st S V Q ↔ xX E mL_addsUp 330 [l0, l1, l2, l3, l4, l5, l6, l7, l8, l9, l10, l11, l12, l13, l14] (.int (nI 0) :: st) S V Q := xi (show decode cL_addsUp 329 = .ok (.iconst 0, 1) by decide +kernel) rfl
theorem pL_addsUp_330 (h : xnl l7 = true) : xX E mL_addsUp 330 [l0, l1, l2, l3, l4, l5, l6, l7, l8, l9, l10, l11, l12, l13, l14] (.int x :: st) S V Q ↔ xX E mL_addsUp 332 [l0, l1, l2, l3, l4, l5, l6, l7, some (.int x), l9, l10, l11, l12, l13, l14] st S V Q := xi_st1 (j := 7) (v := .int x) (show decode cL_addsUp 330 = .ok (.istore 8, 2) by decide +kernel) rfl h rfl rfl
theorem pL_addsUp_332 : xX E mL_addsUp 332 [l0, l1, l2, l3, l4, l5, l6, l7, l8, l9, l10, l11, l12, l13, some (.int x)] st S V Q ↔ xX E mL_addsUp 334 [l0, l1, l2, l3, l4, l5, l6, l7, l8, l9, l10, l11, l12, l13, some (.int x)] (.int x :: st) S V Q := xi (show decode cL_addsUp 332 = .ok (.iload 14, 2) by decide +kernel) rfl
theorem pL_addsUp_334 : xX E mL_addsUp 334 [l0, l1, l2, l3, l4, l5, l6, l7, l8, l9, l10, l11, l12, l13, l14] (.int x :: st) S V Q ↔ if x = nI 0 then xX E mL_addsUp 356 [l0, l1, l2, l3, l4, l5, l6, l7, l8, l9, l10, l11, l12, l13, l14] st S V Q else xX E mL_addsUp 337 [l0, l1, l2, l3, l4, l5, l6, l7, l8, l9, l10, l11, l12, l13, l14] st S V Q := xi_if (show decode cL_addsUp 334 = .ok (.ifCond .eq 22, 3) by decide +kernel) (by decide) xcb_eq
theorem pL_addsUp_337 : xX E mL_addsUp 337 [some (.ref a), l1, l2, l3, l4, l5, l6, l7, l8, l9, l10, l11, l12, l13, l14] st S V Q ↔ xX E mL_addsUp 338 [some (.ref a), l1, l2, l3, l4, l5, l6, l7, l8, l9, l10, l11, l12, l13, l14] (.ref a :: st) S V Q := xi (show decode cL_addsUp 337 = .ok (.aload_n 0, 1) by decide +kernel) rfl
theorem pL_addsUp_338 : xX E mL_addsUp 338 [l0, l1, l2, l3, l4, l5, l6, l7, l8, l9, l10, l11, l12, some (.int x), l14] st S V Q ↔ xX E mL_addsUp 340 [l0, l1, l2, l3, l4, l5, l6, l7, l8, l9, l10, l11, l12, some (.int x), l14] (.int x :: st) S V Q := xi (show decode cL_addsUp 338 = .ok (.iload 13, 2) by decide +kernel) rfl
theorem pL_addsUp_340 : xX E mL_addsUp 340 [l0, l1, l2, l3, l4, l5, l6, l7, l8, l9, l10, l11, l12, l13, l14] st S V Q ↔ xX E mL_addsUp 341 [l0, l1, l2, l3, l4, l5, l6, l7, l8, l9, l10, l11, l12, l13, l14] (.int (nI 4) :: st) S V Q := xi (show decode cL_addsUp 340 = .ok (.iconst 4, 1) by decide +kernel) rfl
theorem pL_addsUp_341 {x0 : Int32} {x1 : Int32} (h : xkd S a = 5) (hc : xcat st ≤ 8) : xX E mL_addsUp 341 [l0, l1, l2, l3, l4, l5, l6, l7, l8, l9, l10, l11, l12, l13, l14] (.int x1 :: .int x0 :: .ref a :: st) S V Q ↔ xC E mX4_of [.ref a, .int x0, .int x1] S V (fun v S V => xX E mL_addsUp 344 [l0, l1, l2, l3, l4, l5, l6, l7, l8, l9, l10, l11, l12, l13, l14] (v.toList ++ st) S V Q) := xi_callV (as := [.int x0, .int x1]) (show decode cL_addsUp 341 = .ok (.invokevirtual 18, 3) by decide +kernel) xct_6_18 rfl rfl (by decide) (Nat.le_of_ble_eq_true rfl) rfl h hc
theorem pL_addsUp_344 : xX E mL_addsUp 344 [some (.ref a), l1, l2, l3, l4, l5, l6, l7, l8, l9, l10, l11, l12, l13, l14] st S V Q ↔ xX E mL_addsUp 345 [some (.ref a), l1, l2, l3, l4, l5, l6, l7, l8, l9, l10, l11, l12, l13, l14] (.ref a :: st) S V Q := xi (show decode cL_addsUp 344 = .ok (.aload_n 0, 1) by decide +kernel) rfl
theorem pL_addsUp_345 : xX E mL_addsUp 345 [l0, l1, l2, l3, l4, l5, l6, l7, l8, l9, some (.int x), l11, l12, l13, l14] st S V Q ↔ xX E mL_addsUp 347 [l0, l1, l2, l3, l4, l5, l6, l7, l8, l9, some (.int x), l11, l12, l13, l14] (.int x :: st) S V Q := xi (show decode cL_addsUp 345 = .ok (.iload 10, 2) by decide +kernel) rfl
theorem pL_addsUp_347 : xX E mL_addsUp 347 [l0, l1, l2, l3, l4, l5, l6, l7, l8, l9, l10, l11, l12, l13, l14] st S V Q ↔ xX E mL_addsUp 348 [l0, l1, l2, l3, l4, l5, l6, l7, l8, l9, l10, l11, l12, l13, l14] (.int (nI 3) :: st) S V Q := xi (show decode cL_addsUp 347 = .ok (.iconst 3, 1) by decide +kernel) rfl
theorem pL_addsUp_348 {x0 : Int32} {x1 : Int32} (h : xkd S a = 5) (hc : xcat st ≤ 8) : xX E mL_addsUp 348 [l0, l1, l2, l3, l4, l5, l6, l7, l8, l9, l10, l11, l12, l13, l14] (.int x1 :: .int x0 :: .ref a :: st) S V Q ↔ xC E mX4_of [.ref a, .int x0, .int x1] S V (fun v S V => xX E mL_addsUp 351 [l0, l1, l2, l3, l4, l5, l6, l7, l8, l9, l10, l11, l12, l13, l14] (v.toList ++ st) S V Q) := xi_callV (as := [.int x0, .int x1]) (show decode cL_addsUp 348 = .ok (.invokevirtual 18, 3) by decide +kernel) xct_6_18 rfl rfl (by decide) (Nat.le_of_ble_eq_true rfl) rfl h hc
theorem pL_addsUp_351 : xX E mL_addsUp 351 [l0, l1, l2, l3, l4, l5, l6, l7, l8, l9, l10, l11, l12, l13, l14] (.int y :: .int x :: st) S V Q ↔ if y ≤ x then xX E mL_addsUp 356 [l0, l1, l2, l3, l4, l5, l6, l7, l8, l9, l10, l11, l12, l13, l14] st S V Q else xX E mL_addsUp 354 [l0, l1, l2, l3, l4, l5, l6, l7, l8, l9, l10, l11, l12, l13, l14] st S V Q := xi_icmp (show decode cL_addsUp 351 = .ok (.if_icmp .ge 5, 3) by decide +kernel) (by decide) xcb_ge
theorem pL_addsUp_354 : xX E mL_addsUp 354 [l0, l1, l2, l3, l4, l5, l6, l7, l8, l9, l10, l11, l12, l13, l14] st S V Q ↔ xX E mL_addsUp 355 [l0, l1, l2, l3, l4, l5, l6, l7, l8, l9, l10, l11, l12, l13, l14] (.int (nI 0) :: st) S V Q := xi (show decode cL_addsUp 354 = .ok (.iconst 0, 1) by decide +kernel) rfl
theorem pL_addsUp_355 (h : b < 2) : xX E mL_addsUp 355 [l0, l1, l2, l3, l4, l5, l6, l7, l8, l9, l10, l11, l12, l13, l14] [.int (nI b)] S V Q ↔ Q (some (.int (nI b))) S V := xi_retZ (show decode cL_addsUp 355 = .ok (.ireturn, 1) by decide +kernel) rfl h
theorem pL_addsUp_356 (h : xnl l12 = true) : xX E mL_addsUp 356 [l0, l1, l2, l3, l4, l5, l6, l7, l8, l9, l10, l11, l12, some (.int (nI a)), l14] st S V Q ↔ xX E mL_addsUp 359 [l0, l1, l2, l3, l4, l5, l6, l7, l8, l9, l10, l11, l12, some (.int (nI (a + 1))), l14] st S V Q := xi_iinc (j := 12) (show decode cL_addsUp 356 = .ok (.iinc 13 1, 3) by decide +kernel) rfl h rfl (nI_add a 1) (Nat.le_of_ble_eq_true rfl) rfl
theorem pL_addsUp_359 : xX E mL_addsUp 359 [l0, l1, l2, l3, l4, l5, l6, l7, l8, l9, l10, l11, l12, l13, l14] st S V Q ↔ xX E mL_addsUp 279 [l0, l1, l2, l3, l4, l5, l6, l7, l8, l9, l10, l11, l12, l13, l14] st S V Q := xi_goto (show decode cL_addsUp 359 = .ok (.goto (-80), 3) by decide +kernel) (by decide)
theorem pL_addsUp_362 (h : xnl l9 = true) : xX E mL_addsUp 362 [l0, l1, l2, l3, l4, l5, l6, l7, l8, l9, some (.int (nI a)), l11, l12, l13, l14] st S V Q ↔ xX E mL_addsUp 365 [l0, l1, l2, l3, l4, l5, l6, l7, l8, l9, some (.int (nI (a + 1))), l11, l12, l13, l14] st S V Q := xi_iinc (j := 9) (show decode cL_addsUp 362 = .ok (.iinc 10 1, 3) by decide +kernel) rfl h rfl (nI_add a 1) (Nat.le_of_ble_eq_true rfl) rfl
theorem pL_addsUp_365 : xX E mL_addsUp 365 [l0, l1, l2, l3, l4, l5, l6, l7, l8, l9, l10, l11, l12, l13, l14] st S V Q ↔ xX E mL_addsUp 31 [l0, l1, l2, l3, l4, l5, l6, l7, l8, l9, l10, l11, l12, l13, l14] st S V Q := xi_goto (show decode cL_addsUp 365 = .ok (.goto (-334), 3) by decide +kernel) (by decide)
theorem pL_addsUp_368 : xX E mL_addsUp 368 [l0, l1, l2, l3, l4, some (.int x), l6, l7, l8, l9, l10, l11, l12, l13, l14] st S V Q ↔ xX E mL_addsUp 370 [l0, l1, l2, l3, l4, some (.int x), l6, l7, l8, l9, l10, l11, l12, l13, l14] (.int x :: st) S V Q := xi (show decode cL_addsUp 368 = .ok (.iload 5, 2) by decide +kernel) rfl
theorem pL_addsUp_370 : xX E mL_addsUp 370 [l0, l1, l2, l3, l4, l5, l6, l7, l8, l9, l10, l11, l12, l13, l14] st S V Q ↔ xX E mL_addsUp 372 [l0, l1, l2, l3, l4, l5, l6, l7, l8, l9, l10, l11, l12, l13, l14] (.int (nI 8) :: st) S V Q := xi (show decode cL_addsUp 370 = .ok (.bipush 8, 2) by decide +kernel) rfl
theorem pL_addsUp_372 : xX E mL_addsUp 372 [l0, l1, l2, l3, l4, l5, l6, l7, l8, l9, l10, l11, l12, l13, l14] (.int y :: .int x :: st) S V Q ↔ if y ≤ x then xX E mL_addsUp 389 [l0, l1, l2, l3, l4, l5, l6, l7, l8, l9, l10, l11, l12, l13, l14] st S V Q else xX E mL_addsUp 375 [l0, l1, l2, l3, l4, l5, l6, l7, l8, l9, l10, l11, l12, l13, l14] st S V Q := xi_icmp (show decode cL_addsUp 372 = .ok (.if_icmp .ge 17, 3) by decide +kernel) (by decide) xcb_ge
theorem pL_addsUp_375 : xX E mL_addsUp 375 [l0, l1, l2, l3, l4, l5, some (.int x), l7, l8, l9, l10, l11, l12, l13, l14] st S V Q ↔ xX E mL_addsUp 377 [l0, l1, l2, l3, l4, l5, some (.int x), l7, l8, l9, l10, l11, l12, l13, l14] (.int x :: st) S V Q := xi (show decode cL_addsUp 375 = .ok (.iload 6, 2) by decide +kernel) rfl
theorem pL_addsUp_377 : xX E mL_addsUp 377 [l0, l1, l2, l3, l4, l5, l6, l7, l8, l9, l10, l11, l12, l13, l14] (.int x :: st) S V Q ↔ if ¬ x = nI 0 then xX E mL_addsUp 389 [l0, l1, l2, l3, l4, l5, l6, l7, l8, l9, l10, l11, l12, l13, l14] st S V Q else xX E mL_addsUp 380 [l0, l1, l2, l3, l4, l5, l6, l7, l8, l9, l10, l11, l12, l13, l14] st S V Q := xi_if (show decode cL_addsUp 377 = .ok (.ifCond .ne 12, 3) by decide +kernel) (by decide) xcb_ne
theorem pL_addsUp_380 : xX E mL_addsUp 380 [l0, l1, l2, l3, l4, l5, l6, l7, l8, some (.int x), l10, l11, l12, l13, l14] st S V Q ↔ xX E mL_addsUp 382 [l0, l1, l2, l3, l4, l5, l6, l7, l8, some (.int x), l10, l11, l12, l13, l14] (.int x :: st) S V Q := xi (show decode cL_addsUp 380 = .ok (.iload 9, 2) by decide +kernel) rfl
theorem pL_addsUp_382 : xX E mL_addsUp 382 [l0, l1, l2, l3, l4, l5, l6, l7, l8, l9, l10, l11, l12, l13, l14] (.int x :: st) S V Q ↔ if ¬ x = nI 0 then xX E mL_addsUp 389 [l0, l1, l2, l3, l4, l5, l6, l7, l8, l9, l10, l11, l12, l13, l14] st S V Q else xX E mL_addsUp 385 [l0, l1, l2, l3, l4, l5, l6, l7, l8, l9, l10, l11, l12, l13, l14] st S V Q := xi_if (show decode cL_addsUp 382 = .ok (.ifCond .ne 7, 3) by decide +kernel) (by decide) xcb_ne
theorem pL_addsUp_385 : xX E mL_addsUp 385 [l0, l1, l2, l3, l4, l5, l6, l7, l8, l9, l10, l11, l12, l13, l14] st S V Q ↔ xX E mL_addsUp 386 [l0, l1, l2, l3, l4, l5, l6, l7, l8, l9, l10, l11, l12, l13, l14] (.int (nI 1) :: st) S V Q := xi (show decode cL_addsUp 385 = .ok (.iconst 1, 1) by decide +kernel) rfl
theorem pL_addsUp_386 : xX E mL_addsUp 386 [l0, l1, l2, l3, l4, l5, l6, l7, l8, l9, l10, l11, l12, l13, l14] st S V Q ↔ xX E mL_addsUp 390 [l0, l1, l2, l3, l4, l5, l6, l7, l8, l9, l10, l11, l12, l13, l14] st S V Q := xi_goto (show decode cL_addsUp 386 = .ok (.goto 4, 3) by decide +kernel) (by decide)
theorem pL_addsUp_389 : xX E mL_addsUp 389 [l0, l1, l2, l3, l4, l5, l6, l7, l8, l9, l10, l11, l12, l13, l14] st S V Q ↔ xX E mL_addsUp 390 [l0, l1, l2, l3, l4, l5, l6, l7, l8, l9, l10, l11, l12, l13, l14] (.int (nI 0) :: st) S V Q := xi (show decode cL_addsUp 389 = .ok (.iconst 0, 1) by decide +kernel) rfl
theorem pL_addsUp_390 (h : xnl l9 = true) : xX E mL_addsUp 390 [l0, l1, l2, l3, l4, l5, l6, l7, l8, l9, l10, l11, l12, l13, l14] (.int x :: st) S V Q ↔ xX E mL_addsUp 392 [l0, l1, l2, l3, l4, l5, l6, l7, l8, l9, some (.int x), l11, l12, l13, l14] st S V Q := xi_st1 (j := 9) (v := .int x) (show decode cL_addsUp 390 = .ok (.istore 10, 2) by decide +kernel) rfl h rfl rfl
theorem pL_addsUp_392 : xX E mL_addsUp 392 [l0, l1, some (.int x), l3, l4, l5, l6, l7, l8, l9, l10, l11, l12, l13, l14] st S V Q ↔ xX E mL_addsUp 393 [l0, l1, some (.int x), l3, l4, l5, l6, l7, l8, l9, l10, l11, l12, l13, l14] (.int x :: st) S V Q := xi (show decode cL_addsUp 392 = .ok (.iload_n 2, 1) by decide +kernel) rfl
theorem pL_addsUp_393 : xX E mL_addsUp 393 [l0, l1, l2, some (.int x), l4, l5, l6, l7, l8, l9, l10, l11, l12, l13, l14] st S V Q ↔ xX E mL_addsUp 394 [l0, l1, l2, some (.int x), l4, l5, l6, l7, l8, l9, l10, l11, l12, l13, l14] (.int x :: st) S V Q := xi (show decode cL_addsUp 393 = .ok (.iload_n 3, 1) by decide +kernel) rfl
theorem pL_addsUp_394 : xX E mL_addsUp 394 [l0, l1, l2, l3, l4, l5, l6, l7, l8, l9, l10, l11, l12, l13, l14] (.int y :: .int x :: st) S V Q ↔ if ¬ x = y then xX E mL_addsUp 480 [l0, l1, l2, l3, l4, l5, l6, l7, l8, l9, l10, l11, l12, l13, l14] st S V Q else xX E mL_addsUp 397 [l0, l1, l2, l3, l4, l5, l6, l7, l8, l9, l10, l11, l12, l13, l14] st S V Q := xi_icmp (show decode cL_addsUp 394 = .ok (.if_icmp .ne 86, 3) by decide +kernel) (by decide) xcb_ne
theorem pL_addsUp_397 : xX E mL_addsUp 397 [l0, l1, some (.int x), l3, l4, l5, l6, l7, l8, l9, l10, l11, l12, l13, l14] st S V Q ↔ xX E mL_addsUp 398 [l0, l1, some (.int x), l3, l4, l5, l6, l7, l8, l9, l10, l11, l12, l13, l14] (.int x :: st) S V Q := xi (show decode cL_addsUp 397 = .ok (.iload_n 2, 1) by decide +kernel) rfl
theorem pL_addsUp_398 : xX E mL_addsUp 398 [some (.ref a), l1, l2, l3, l4, l5, l6, l7, l8, l9, l10, l11, l12, l13, l14] st S V Q ↔ xX E mL_addsUp 399 [some (.ref a), l1, l2, l3, l4, l5, l6, l7, l8, l9, l10, l11, l12, l13, l14] (.ref a :: st) S V Q := xi (show decode cL_addsUp 398 = .ok (.aload_n 0, 1) by decide +kernel) rfl
theorem pL_addsUp_399 : xX E mL_addsUp 399 [l0, l1, l2, l3, l4, l5, l6, l7, l8, l9, l10, l11, l12, l13, l14] st S V Q ↔ xX E mL_addsUp 401 [l0, l1, l2, l3, l4, l5, l6, l7, l8, l9, l10, l11, l12, l13, l14] (.int (nI 6) :: st) S V Q := xi (show decode cL_addsUp 399 = .ok (.bipush 6, 2) by decide +kernel) rfl
theorem pL_addsUp_401 {x0 : Int32} (h : xkd S a = 5) (hc : xcat st ≤ 8) : xX E mL_addsUp 401 [l0, l1, l2, l3, l4, l5, l6, l7, l8, l9, l10, l11, l12, l13, l14] (.int x0 :: .ref a :: st) S V Q ↔ xC E mX4_count [.ref a, .int x0] S V (fun v S V => xX E mL_addsUp 404 [l0, l1, l2, l3, l4, l5, l6, l7, l8, l9, l10, l11, l12, l13, l14] (v.toList ++ st) S V Q) := xi_callV (as := [.int x0]) (show decode cL_addsUp 401 = .ok (.invokevirtual 12, 3) by decide +kernel) xct_6_12 rfl rfl (by decide) (Nat.le_of_ble_eq_true rfl) rfl h hc
theorem pL_addsUp_404 : xX E mL_addsUp 404 [l0, l1, l2, l3, l4, l5, l6, l7, l8, l9, l10, l11, l12, l13, l14] (.int y :: .int x :: st) S V Q ↔ if ¬ x = y then xX E mL_addsUp 480 [l0, l1, l2, l3, l4, l5, l6, l7, l8, l9, l10, l11, l12, l13, l14] st S V Q else xX E mL_addsUp 407 [l0, l1, l2, l3, l4, l5, l6, l7, l8, l9, l10, l11, l12, l13, l14] st S V Q := xi_icmp (show decode cL_addsUp 404 = .ok (.if_icmp .ne 76, 3) by decide +kernel) (by decide) xcb_ne
theorem pL_addsUp_407 : xX E mL_addsUp 407 [l0, l1, l2, l3, some (.int x), l5, l6, l7, l8, l9, l10, l11, l12, l13, l14] st S V Q ↔ xX E mL_addsUp 409 [l0, l1, l2, l3, some (.int x), l5, l6, l7, l8, l9, l10, l11, l12, l13, l14] (.int x :: st) S V Q := xi (show decode cL_addsUp 407 = .ok (.iload 4, 2) by decide +kernel) rfl
theorem pL_addsUp_409 : xX E mL_addsUp 409 [some (.ref a), l1, l2, l3, l4, l5, l6, l7, l8, l9, l10, l11, l12, l13, l14] st S V Q ↔ xX E mL_addsUp 410 [some (.ref a), l1, l2, l3, l4, l5, l6, l7, l8, l9, l10, l11, l12, l13, l14] (.ref a :: st) S V Q := xi (show decode cL_addsUp 409 = .ok (.aload_n 0, 1) by decide +kernel) rfl
theorem pL_addsUp_410 : xX E mL_addsUp 410 [l0, l1, l2, l3, l4, l5, l6, l7, l8, l9, l10, l11, l12, l13, l14] st S V Q ↔ xX E mL_addsUp 411 [l0, l1, l2, l3, l4, l5, l6, l7, l8, l9, l10, l11, l12, l13, l14] (.int (nI 5) :: st) S V Q := xi (show decode cL_addsUp 410 = .ok (.iconst 5, 1) by decide +kernel) rfl
theorem pL_addsUp_411 {x0 : Int32} (h : xkd S a = 5) (hc : xcat st ≤ 8) : xX E mL_addsUp 411 [l0, l1, l2, l3, l4, l5, l6, l7, l8, l9, l10, l11, l12, l13, l14] (.int x0 :: .ref a :: st) S V Q ↔ xC E mX4_count [.ref a, .int x0] S V (fun v S V => xX E mL_addsUp 414 [l0, l1, l2, l3, l4, l5, l6, l7, l8, l9, l10, l11, l12, l13, l14] (v.toList ++ st) S V Q) := xi_callV (as := [.int x0]) (show decode cL_addsUp 411 = .ok (.invokevirtual 12, 3) by decide +kernel) xct_6_12 rfl rfl (by decide) (Nat.le_of_ble_eq_true rfl) rfl h hc
theorem pL_addsUp_414 : xX E mL_addsUp 414 [l0, l1, l2, l3, l4, l5, l6, l7, l8, l9, l10, l11, l12, l13, l14] (.int y :: .int x :: st) S V Q ↔ if ¬ x = y then xX E mL_addsUp 480 [l0, l1, l2, l3, l4, l5, l6, l7, l8, l9, l10, l11, l12, l13, l14] st S V Q else xX E mL_addsUp 417 [l0, l1, l2, l3, l4, l5, l6, l7, l8, l9, l10, l11, l12, l13, l14] st S V Q := xi_icmp (show decode cL_addsUp 414 = .ok (.if_icmp .ne 66, 3) by decide +kernel) (by decide) xcb_ne
theorem pL_addsUp_417 : xX E mL_addsUp 417 [l0, l1, l2, l3, l4, some (.int x), l6, l7, l8, l9, l10, l11, l12, l13, l14] st S V Q ↔ xX E mL_addsUp 419 [l0, l1, l2, l3, l4, some (.int x), l6, l7, l8, l9, l10, l11, l12, l13, l14] (.int x :: st) S V Q := xi (show decode cL_addsUp 417 = .ok (.iload 5, 2) by decide +kernel) rfl
theorem pL_addsUp_419 : xX E mL_addsUp 419 [some (.ref a), l1, l2, l3, l4, l5, l6, l7, l8, l9, l10, l11, l12, l13, l14] st S V Q ↔ xX E mL_addsUp 420 [some (.ref a), l1, l2, l3, l4, l5, l6, l7, l8, l9, l10, l11, l12, l13, l14] (.ref a :: st) S V Q := xi (show decode cL_addsUp 419 = .ok (.aload_n 0, 1) by decide +kernel) rfl
theorem pL_addsUp_420 : xX E mL_addsUp 420 [l0, l1, l2, l3, l4, l5, l6, l7, l8, l9, l10, l11, l12, l13, l14] st S V Q ↔ xX E mL_addsUp 421 [l0, l1, l2, l3, l4, l5, l6, l7, l8, l9, l10, l11, l12, l13, l14] (.int (nI 1) :: st) S V Q := xi (show decode cL_addsUp 420 = .ok (.iconst 1, 1) by decide +kernel) rfl
theorem pL_addsUp_421 {x0 : Int32} (h : xkd S a = 5) (hc : xcat st ≤ 8) : xX E mL_addsUp 421 [l0, l1, l2, l3, l4, l5, l6, l7, l8, l9, l10, l11, l12, l13, l14] (.int x0 :: .ref a :: st) S V Q ↔ xC E mX4_count [.ref a, .int x0] S V (fun v S V => xX E mL_addsUp 424 [l0, l1, l2, l3, l4, l5, l6, l7, l8, l9, l10, l11, l12, l13, l14] (v.toList ++ st) S V Q) := xi_callV (as := [.int x0]) (show decode cL_addsUp 421 = .ok (.invokevirtual 12, 3) by decide +kernel) xct_6_12 rfl rfl (by decide) (Nat.le_of_ble_eq_true rfl) rfl h hc
theorem pL_addsUp_424 : xX E mL_addsUp 424 [l0, l1, l2, l3, l4, l5, l6, l7, l8, l9, l10, l11, l12, l13, l14] (.int y :: .int x :: st) S V Q ↔ if ¬ x = y then xX E mL_addsUp 480 [l0, l1, l2, l3, l4, l5, l6, l7, l8, l9, l10, l11, l12, l13, l14] st S V Q else xX E mL_addsUp 427 [l0, l1, l2, l3, l4, l5, l6, l7, l8, l9, l10, l11, l12, l13, l14] st S V Q := xi_icmp (show decode cL_addsUp 424 = .ok (.if_icmp .ne 56, 3) by decide +kernel) (by decide) xcb_ne
theorem pL_addsUp_427 : xX E mL_addsUp 427 [l0, l1, l2, l3, l4, l5, some (.int x), l7, l8, l9, l10, l11, l12, l13, l14] st S V Q ↔ xX E mL_addsUp 429 [l0, l1, l2, l3, l4, l5, some (.int x), l7, l8, l9, l10, l11, l12, l13, l14] (.int x :: st) S V Q := xi (show decode cL_addsUp 427 = .ok (.iload 6, 2) by decide +kernel) rfl
theorem pL_addsUp_429 : xX E mL_addsUp 429 [some (.ref a), l1, l2, l3, l4, l5, l6, l7, l8, l9, l10, l11, l12, l13, l14] st S V Q ↔ xX E mL_addsUp 430 [some (.ref a), l1, l2, l3, l4, l5, l6, l7, l8, l9, l10, l11, l12, l13, l14] (.ref a :: st) S V Q := xi (show decode cL_addsUp 429 = .ok (.aload_n 0, 1) by decide +kernel) rfl
theorem pL_addsUp_430 : xX E mL_addsUp 430 [l0, l1, l2, l3, l4, l5, l6, l7, l8, l9, l10, l11, l12, l13, l14] st S V Q ↔ xX E mL_addsUp 431 [l0, l1, l2, l3, l4, l5, l6, l7, l8, l9, l10, l11, l12, l13, l14] (.int (nI 2) :: st) S V Q := xi (show decode cL_addsUp 430 = .ok (.iconst 2, 1) by decide +kernel) rfl
theorem pL_addsUp_431 {x0 : Int32} (h : xkd S a = 5) (hc : xcat st ≤ 8) : xX E mL_addsUp 431 [l0, l1, l2, l3, l4, l5, l6, l7, l8, l9, l10, l11, l12, l13, l14] (.int x0 :: .ref a :: st) S V Q ↔ xC E mX4_count [.ref a, .int x0] S V (fun v S V => xX E mL_addsUp 434 [l0, l1, l2, l3, l4, l5, l6, l7, l8, l9, l10, l11, l12, l13, l14] (v.toList ++ st) S V Q) := xi_callV (as := [.int x0]) (show decode cL_addsUp 431 = .ok (.invokevirtual 12, 3) by decide +kernel) xct_6_12 rfl rfl (by decide) (Nat.le_of_ble_eq_true rfl) rfl h hc
theorem pL_addsUp_434 : xX E mL_addsUp 434 [l0, l1, l2, l3, l4, l5, l6, l7, l8, l9, l10, l11, l12, l13, l14] (.int y :: .int x :: st) S V Q ↔ if ¬ x = y then xX E mL_addsUp 480 [l0, l1, l2, l3, l4, l5, l6, l7, l8, l9, l10, l11, l12, l13, l14] st S V Q else xX E mL_addsUp 437 [l0, l1, l2, l3, l4, l5, l6, l7, l8, l9, l10, l11, l12, l13, l14] st S V Q := xi_icmp (show decode cL_addsUp 434 = .ok (.if_icmp .ne 46, 3) by decide +kernel) (by decide) xcb_ne
theorem pL_addsUp_437 : xX E mL_addsUp 437 [l0, l1, l2, l3, l4, l5, l6, some (.int x), l8, l9, l10, l11, l12, l13, l14] st S V Q ↔ xX E mL_addsUp 439 [l0, l1, l2, l3, l4, l5, l6, some (.int x), l8, l9, l10, l11, l12, l13, l14] (.int x :: st) S V Q := xi (show decode cL_addsUp 437 = .ok (.iload 7, 2) by decide +kernel) rfl
theorem pL_addsUp_439 : xX E mL_addsUp 439 [some (.ref a), l1, l2, l3, l4, l5, l6, l7, l8, l9, l10, l11, l12, l13, l14] st S V Q ↔ xX E mL_addsUp 440 [some (.ref a), l1, l2, l3, l4, l5, l6, l7, l8, l9, l10, l11, l12, l13, l14] (.ref a :: st) S V Q := xi (show decode cL_addsUp 439 = .ok (.aload_n 0, 1) by decide +kernel) rfl
theorem pL_addsUp_440 : xX E mL_addsUp 440 [l0, l1, l2, l3, l4, l5, l6, l7, l8, l9, l10, l11, l12, l13, l14] st S V Q ↔ xX E mL_addsUp 441 [l0, l1, l2, l3, l4, l5, l6, l7, l8, l9, l10, l11, l12, l13, l14] (.int (nI 3) :: st) S V Q := xi (show decode cL_addsUp 440 = .ok (.iconst 3, 1) by decide +kernel) rfl
theorem pL_addsUp_441 {x0 : Int32} (h : xkd S a = 5) (hc : xcat st ≤ 8) : xX E mL_addsUp 441 [l0, l1, l2, l3, l4, l5, l6, l7, l8, l9, l10, l11, l12, l13, l14] (.int x0 :: .ref a :: st) S V Q ↔ xC E mX4_count [.ref a, .int x0] S V (fun v S V => xX E mL_addsUp 444 [l0, l1, l2, l3, l4, l5, l6, l7, l8, l9, l10, l11, l12, l13, l14] (v.toList ++ st) S V Q) := xi_callV (as := [.int x0]) (show decode cL_addsUp 441 = .ok (.invokevirtual 12, 3) by decide +kernel) xct_6_12 rfl rfl (by decide) (Nat.le_of_ble_eq_true rfl) rfl h hc
theorem pL_addsUp_444 : xX E mL_addsUp 444 [l0, l1, l2, l3, l4, l5, l6, l7, l8, l9, l10, l11, l12, l13, l14] (.int y :: .int x :: st) S V Q ↔ if ¬ x = y then xX E mL_addsUp 480 [l0, l1, l2, l3, l4, l5, l6, l7, l8, l9, l10, l11, l12, l13, l14] st S V Q else xX E mL_addsUp 447 [l0, l1, l2, l3, l4, l5, l6, l7, l8, l9, l10, l11, l12, l13, l14] st S V Q := xi_icmp (show decode cL_addsUp 444 = .ok (.if_icmp .ne 36, 3) by decide +kernel) (by decide) xcb_ne
theorem pL_addsUp_447 : xX E mL_addsUp 447 [l0, l1, l2, l3, l4, l5, l6, l7, l8, l9, some (.int x), l11, l12, l13, l14] st S V Q ↔ xX E mL_addsUp 449 [l0, l1, l2, l3, l4, l5, l6, l7, l8, l9, some (.int x), l11, l12, l13, l14] (.int x :: st) S V Q := xi (show decode cL_addsUp 447 = .ok (.iload 10, 2) by decide +kernel) rfl
theorem pL_addsUp_449 : xX E mL_addsUp 449 [some (.ref a), l1, l2, l3, l4, l5, l6, l7, l8, l9, l10, l11, l12, l13, l14] st S V Q ↔ xX E mL_addsUp 450 [some (.ref a), l1, l2, l3, l4, l5, l6, l7, l8, l9, l10, l11, l12, l13, l14] (.ref a :: st) S V Q := xi (show decode cL_addsUp 449 = .ok (.aload_n 0, 1) by decide +kernel) rfl
theorem pL_addsUp_450 : xX E mL_addsUp 450 [l0, l1, l2, l3, l4, l5, l6, l7, l8, l9, l10, l11, l12, l13, l14] st S V Q ↔ xX E mL_addsUp 451 [l0, l1, l2, l3, l4, l5, l6, l7, l8, l9, l10, l11, l12, l13, l14] (.int (nI 4) :: st) S V Q := xi (show decode cL_addsUp 450 = .ok (.iconst 4, 1) by decide +kernel) rfl
theorem pL_addsUp_451 {x0 : Int32} (h : xkd S a = 5) (hc : xcat st ≤ 8) : xX E mL_addsUp 451 [l0, l1, l2, l3, l4, l5, l6, l7, l8, l9, l10, l11, l12, l13, l14] (.int x0 :: .ref a :: st) S V Q ↔ xC E mX4_count [.ref a, .int x0] S V (fun v S V => xX E mL_addsUp 454 [l0, l1, l2, l3, l4, l5, l6, l7, l8, l9, l10, l11, l12, l13, l14] (v.toList ++ st) S V Q) := xi_callV (as := [.int x0]) (show decode cL_addsUp 451 = .ok (.invokevirtual 12, 3) by decide +kernel) xct_6_12 rfl rfl (by decide) (Nat.le_of_ble_eq_true rfl) rfl h hc
theorem pL_addsUp_454 : xX E mL_addsUp 454 [l0, l1, l2, l3, l4, l5, l6, l7, l8, l9, l10, l11, l12, l13, l14] st S V Q ↔ xX E mL_addsUp 455 [l0, l1, l2, l3, l4, l5, l6, l7, l8, l9, l10, l11, l12, l13, l14] (.int (nI 1) :: st) S V Q := xi (show decode cL_addsUp 454 = .ok (.iconst 1, 1) by decide +kernel) rfl
theorem pL_addsUp_455 : xX E mL_addsUp 455 [l0, l1, l2, l3, l4, l5, l6, l7, l8, l9, l10, l11, l12, l13, l14] (.int y :: .int x :: st) S V Q ↔ if ¬ x = y then xX E mL_addsUp 462 [l0, l1, l2, l3, l4, l5, l6, l7, l8, l9, l10, l11, l12, l13, l14] st S V Q else xX E mL_addsUp 458 [l0, l1, l2, l3, l4, l5, l6, l7, l8, l9, l10, l11, l12, l13, l14] st S V Q := xi_icmp (show decode cL_addsUp 455 = .ok (.if_icmp .ne 7, 3) by decide +kernel) (by decide) xcb_ne
theorem pL_addsUp_458 : xX E mL_addsUp 458 [l0, l1, l2, l3, l4, l5, l6, l7, l8, l9, l10, l11, l12, l13, l14] st S V Q ↔ xX E mL_addsUp 459 [l0, l1, l2, l3, l4, l5, l6, l7, l8, l9, l10, l11, l12, l13, l14] (.int (nI 1) :: st) S V Q := xi (show decode cL_addsUp 458 = .ok (.iconst 1, 1) by decide +kernel) rfl
theorem pL_addsUp_459 : xX E mL_addsUp 459 [l0, l1, l2, l3, l4, l5, l6, l7, l8, l9, l10, l11, l12, l13, l14] st S V Q ↔ xX E mL_addsUp 463 [l0, l1, l2, l3, l4, l5, l6, l7, l8, l9, l10, l11, l12, l13, l14] st S V Q := xi_goto (show decode cL_addsUp 459 = .ok (.goto 4, 3) by decide +kernel) (by decide)
theorem pL_addsUp_462 : xX E mL_addsUp 462 [l0, l1, l2, l3, l4, l5, l6, l7, l8, l9, l10, l11, l12, l13, l14] st S V Q ↔ xX E mL_addsUp 463 [l0, l1, l2, l3, l4, l5, l6, l7, l8, l9, l10, l11, l12, l13, l14] (.int (nI 0) :: st) S V Q := xi (show decode cL_addsUp 462 = .ok (.iconst 0, 1) by decide +kernel) rfl
theorem pL_addsUp_463 : xX E mL_addsUp 463 [l0, l1, l2, l3, l4, l5, l6, l7, l8, l9, l10, l11, l12, l13, l14] (.int y :: .int x :: st) S V Q ↔ if ¬ x = y then xX E mL_addsUp 480 [l0, l1, l2, l3, l4, l5, l6, l7, l8, l9, l10, l11, l12, l13, l14] st S V Q else xX E mL_addsUp 466 [l0, l1, l2, l3, l4, l5, l6, l7, l8, l9, l10, l11, l12, l13, l14] st S V Q := xi_icmp (show decode cL_addsUp 463 = .ok (.if_icmp .ne 17, 3) by decide +kernel) (by decide) xcb_ne
theorem pL_addsUp_466 : xX E mL_addsUp 466 [l0, l1, l2, l3, l4, l5, l6, l7, l8, l9, some (.int x), l11, l12, l13, l14] st S V Q ↔ xX E mL_addsUp 468 [l0, l1, l2, l3, l4, l5, l6, l7, l8, l9, some (.int x), l11, l12, l13, l14] (.int x :: st) S V Q := xi (show decode cL_addsUp 466 = .ok (.iload 10, 2) by decide +kernel) rfl
theorem pL_addsUp_468 : xX E mL_addsUp 468 [l0, l1, l2, l3, l4, l5, l6, l7, l8, l9, l10, l11, l12, l13, l14] (.int x :: st) S V Q ↔ if x = nI 0 then xX E mL_addsUp 476 [l0, l1, l2, l3, l4, l5, l6, l7, l8, l9, l10, l11, l12, l13, l14] st S V Q else xX E mL_addsUp 471 [l0, l1, l2, l3, l4, l5, l6, l7, l8, l9, l10, l11, l12, l13, l14] st S V Q := xi_if (show decode cL_addsUp 468 = .ok (.ifCond .eq 8, 3) by decide +kernel) (by decide) xcb_eq
theorem pL_addsUp_471 : xX E mL_addsUp 471 [l0, l1, l2, l3, l4, l5, l6, l7, some (.int x), l9, l10, l11, l12, l13, l14] st S V Q ↔ xX E mL_addsUp 473 [l0, l1, l2, l3, l4, l5, l6, l7, some (.int x), l9, l10, l11, l12, l13, l14] (.int x :: st) S V Q := xi (show decode cL_addsUp 471 = .ok (.iload 8, 2) by decide +kernel) rfl
theorem pL_addsUp_473 : xX E mL_addsUp 473 [l0, l1, l2, l3, l4, l5, l6, l7, l8, l9, l10, l11, l12, l13, l14] (.int x :: st) S V Q ↔ if x = nI 0 then xX E mL_addsUp 480 [l0, l1, l2, l3, l4, l5, l6, l7, l8, l9, l10, l11, l12, l13, l14] st S V Q else xX E mL_addsUp 476 [l0, l1, l2, l3, l4, l5, l6, l7, l8, l9, l10, l11, l12, l13, l14] st S V Q := xi_if (show decode cL_addsUp 473 = .ok (.ifCond .eq 7, 3) by decide +kernel) (by decide) xcb_eq
theorem pL_addsUp_476 : xX E mL_addsUp 476 [l0, l1, l2, l3, l4, l5, l6, l7, l8, l9, l10, l11, l12, l13, l14] st S V Q ↔ xX E mL_addsUp 477 [l0, l1, l2, l3, l4, l5, l6, l7, l8, l9, l10, l11, l12, l13, l14] (.int (nI 1) :: st) S V Q := xi (show decode cL_addsUp 476 = .ok (.iconst 1, 1) by decide +kernel) rfl
theorem pL_addsUp_477 : xX E mL_addsUp 477 [l0, l1, l2, l3, l4, l5, l6, l7, l8, l9, l10, l11, l12, l13, l14] st S V Q ↔ xX E mL_addsUp 481 [l0, l1, l2, l3, l4, l5, l6, l7, l8, l9, l10, l11, l12, l13, l14] st S V Q := xi_goto (show decode cL_addsUp 477 = .ok (.goto 4, 3) by decide +kernel) (by decide)
theorem pL_addsUp_480 : xX E mL_addsUp 480 [l0, l1, l2, l3, l4, l5, l6, l7, l8, l9, l10, l11, l12, l13, l14] st S V Q ↔ xX E mL_addsUp 481 [l0, l1, l2, l3, l4, l5, l6, l7, l8, l9, l10, l11, l12, l13, l14] (.int (nI 0) :: st) S V Q := xi (show decode cL_addsUp 480 = .ok (.iconst 0, 1) by decide +kernel) rfl
theorem pL_addsUp_481 (h : b < 2) : xX E mL_addsUp 481 [l0, l1, l2, l3, l4, l5, l6, l7, l8, l9, l10, l11, l12, l13, l14] [.int (nI b)] S V Q ↔ Q (some (.int (nI b))) S V := xi_retZ (show decode cL_addsUp 481 = .ok (.ireturn, 1) by decide +kernel) rfl h
-- TurnSlotsLaw.digest(LTurnSlots;)J
theorem pL_digest_0 : xX E mL_digest 0 [l0, l1, l2, l3, l4] st S V Q ↔ xX E mL_digest 3 [l0, l1, l2, l3, l4] (.long (lN 3) :: st) S V Q := xi_ldc2 (show decode cL_digest 0 = .ok (.ldc2_w 8, 3) by decide +kernel) xjt_6_8
theorem pL_digest_3 (h : xnl l0 = true) : xX E mL_digest 3 [l0, l1, l2, l3, l4] (.long u :: st) S V Q ↔ xX E mL_digest 4 [l0, some (.long u), none, l3, l4] st S V Q := xi_st2 (j := 0) (v := .long u) (show decode cL_digest 3 = .ok (.lstore_n 1, 1) by decide +kernel) rfl h rfl rfl
theorem pL_digest_4 : xX E mL_digest 4 [l0, l1, l2, l3, l4] st S V Q ↔ xX E mL_digest 5 [l0, l1, l2, l3, l4] (.int (nI 0) :: st) S V Q := xi (show decode cL_digest 4 = .ok (.iconst 0, 1) by decide +kernel) rfl
theorem pL_digest_5 (h : xnl l2 = true) : xX E mL_digest 5 [l0, l1, l2, l3, l4] (.int x :: st) S V Q ↔ xX E mL_digest 6 [l0, l1, l2, some (.int x), l4] st S V Q := xi_st1 (j := 2) (v := .int x) (show decode cL_digest 5 = .ok (.istore_n 3, 1) by decide +kernel) rfl h rfl rfl
theorem pL_digest_6 : xX E mL_digest 6 [l0, l1, l2, some (.int x), l4] st S V Q ↔ xX E mL_digest 7 [l0, l1, l2, some (.int x), l4] (.int x :: st) S V Q := xi (show decode cL_digest 6 = .ok (.iload_n 3, 1) by decide +kernel) rfl
theorem pL_digest_7 : xX E mL_digest 7 [l0, l1, l2, l3, l4] st S V Q ↔ xX E mL_digest 9 [l0, l1, l2, l3, l4] (.int (nI 8) :: st) S V Q := xi (show decode cL_digest 7 = .ok (.bipush 8, 2) by decide +kernel) rfl
theorem pL_digest_9 : xX E mL_digest 9 [l0, l1, l2, l3, l4] (.int y :: .int x :: st) S V Q ↔ if y ≤ x then xX E mL_digest 31 [l0, l1, l2, l3, l4] st S V Q else xX E mL_digest 12 [l0, l1, l2, l3, l4] st S V Q := xi_icmp (show decode cL_digest 9 = .ok (.if_icmp .ge 22, 3) by decide +kernel) (by decide) xcb_ge
theorem pL_digest_12 : xX E mL_digest 12 [l0, l1, l2, l3, l4] st S V Q ↔ xX E mL_digest 15 [l0, l1, l2, l3, l4] (.long (lN 31) :: st) S V Q := xi_ldc2 (show decode cL_digest 12 = .ok (.ldc2_w 10, 3) by decide +kernel) xjt_6_10
theorem pL_digest_15 : xX E mL_digest 15 [l0, some (.long u), l2, l3, l4] st S V Q ↔ xX E mL_digest 16 [l0, some (.long u), l2, l3, l4] (.long u :: st) S V Q := xi (show decode cL_digest 15 = .ok (.lload_n 1, 1) by decide +kernel) rfl
theorem pL_digest_16 : xX E mL_digest 16 [l0, l1, l2, l3, l4] (.long w :: .long u :: st) S V Q ↔ xX E mL_digest 17 [l0, l1, l2, l3, l4] (.long (u * w) :: st) S V Q := xi (show decode cL_digest 16 = .ok (.lmul, 1) by decide +kernel) rfl
theorem pL_digest_17 : xX E mL_digest 17 [some (.ref a), l1, l2, l3, l4] st S V Q ↔ xX E mL_digest 18 [some (.ref a), l1, l2, l3, l4] (.ref a :: st) S V Q := xi (show decode cL_digest 17 = .ok (.aload_n 0, 1) by decide +kernel) rfl
theorem pL_digest_18 : xX E mL_digest 18 [l0, l1, l2, some (.int x), l4] st S V Q ↔ xX E mL_digest 19 [l0, l1, l2, some (.int x), l4] (.int x :: st) S V Q := xi (show decode cL_digest 18 = .ok (.iload_n 3, 1) by decide +kernel) rfl
theorem pL_digest_19 {x0 : Int32} (h : xkd S a = 5) (hc : xcat st ≤ 8) : xX E mL_digest 19 [l0, l1, l2, l3, l4] (.int x0 :: .ref a :: st) S V Q ↔ xC E mX4_count [.ref a, .int x0] S V (fun v S V => xX E mL_digest 22 [l0, l1, l2, l3, l4] (v.toList ++ st) S V Q) := xi_callV (as := [.int x0]) (show decode cL_digest 19 = .ok (.invokevirtual 12, 3) by decide +kernel) xct_6_12 rfl rfl (by decide) (Nat.le_of_ble_eq_true rfl) rfl h hc
theorem pL_digest_22 : xX E mL_digest 22 [l0, l1, l2, l3, l4] (.int x :: st) S V Q ↔ xX E mL_digest 23 [l0, l1, l2, l3, l4] (.long x.toInt64 :: st) S V Q := xi (show decode cL_digest 22 = .ok (.i2l, 1) by decide +kernel) rfl
theorem pL_digest_23 : xX E mL_digest 23 [l0, l1, l2, l3, l4] (.long w :: .long u :: st) S V Q ↔ xX E mL_digest 24 [l0, l1, l2, l3, l4] (.long (u + w) :: st) S V Q := xi (show decode cL_digest 23 = .ok (.ladd, 1) by decide +kernel) rfl
theorem pL_digest_24 (h : xnl l0 = true) : xX E mL_digest 24 [l0, l1, l2, l3, l4] (.long u :: st) S V Q ↔ xX E mL_digest 25 [l0, some (.long u), none, l3, l4] st S V Q := xi_st2 (j := 0) (v := .long u) (show decode cL_digest 24 = .ok (.lstore_n 1, 1) by decide +kernel) rfl h rfl rfl
theorem pL_digest_25 (h : xnl l2 = true) : xX E mL_digest 25 [l0, l1, l2, some (.int (nI a)), l4] st S V Q ↔ xX E mL_digest 28 [l0, l1, l2, some (.int (nI (a + 1))), l4] st S V Q := xi_iinc (j := 2) (show decode cL_digest 25 = .ok (.iinc 3 1, 3) by decide +kernel) rfl h rfl (nI_add a 1) (Nat.le_of_ble_eq_true rfl) rfl
theorem pL_digest_28 : xX E mL_digest 28 [l0, l1, l2, l3, l4] st S V Q ↔ xX E mL_digest 6 [l0, l1, l2, l3, l4] st S V Q := xi_goto (show decode cL_digest 28 = .ok (.goto (-22), 3) by decide +kernel) (by decide)
theorem pL_digest_31 : xX E mL_digest 31 [l0, l1, l2, l3, l4] st S V Q ↔ xX E mL_digest 32 [l0, l1, l2, l3, l4] (.int (nI 0) :: st) S V Q := xi (show decode cL_digest 31 = .ok (.iconst 0, 1) by decide +kernel) rfl
theorem pL_digest_32 (h : xnl l2 = true) : xX E mL_digest 32 [l0, l1, l2, l3, l4] (.int x :: st) S V Q ↔ xX E mL_digest 33 [l0, l1, l2, some (.int x), l4] st S V Q := xi_st1 (j := 2) (v := .int x) (show decode cL_digest 32 = .ok (.istore_n 3, 1) by decide +kernel) rfl h rfl rfl
theorem pL_digest_33 : xX E mL_digest 33 [l0, l1, l2, some (.int x), l4] st S V Q ↔ xX E mL_digest 34 [l0, l1, l2, some (.int x), l4] (.int x :: st) S V Q := xi (show decode cL_digest 33 = .ok (.iload_n 3, 1) by decide +kernel) rfl
theorem pL_digest_34 : xX E mL_digest 34 [l0, l1, l2, l3, l4] st S V Q ↔ xX E mL_digest 36 [l0, l1, l2, l3, l4] (.int (nI 8) :: st) S V Q := xi (show decode cL_digest 34 = .ok (.bipush 8, 2) by decide +kernel) rfl
theorem pL_digest_36 : xX E mL_digest 36 [l0, l1, l2, l3, l4] (.int y :: .int x :: st) S V Q ↔ if y ≤ x then xX E mL_digest 175 [l0, l1, l2, l3, l4] st S V Q else xX E mL_digest 39 [l0, l1, l2, l3, l4] st S V Q := xi_icmp (show decode cL_digest 36 = .ok (.if_icmp .ge 139, 3) by decide +kernel) (by decide) xcb_ge
theorem pL_digest_39 : xX E mL_digest 39 [l0, l1, l2, l3, l4] st S V Q ↔ xX E mL_digest 40 [l0, l1, l2, l3, l4] (.int (nI 0) :: st) S V Q := xi (show decode cL_digest 39 = .ok (.iconst 0, 1) by decide +kernel) rfl
theorem pL_digest_40 (h : xnl l3 = true) : xX E mL_digest 40 [l0, l1, l2, l3, l4] (.int x :: st) S V Q ↔ xX E mL_digest 42 [l0, l1, l2, l3, some (.int x)] st S V Q := xi_st1 (j := 3) (v := .int x) (show decode cL_digest 40 = .ok (.istore 4, 2) by decide +kernel) rfl h rfl rfl
theorem pL_digest_42 : xX E mL_digest 42 [l0, l1, l2, l3, some (.int x)] st S V Q ↔ xX E mL_digest 44 [l0, l1, l2, l3, some (.int x)] (.int x :: st) S V Q := xi (show decode cL_digest 42 = .ok (.iload 4, 2) by decide +kernel) rfl
theorem pL_digest_44 : xX E mL_digest 44 [l0, l1, l2, l3, l4] st S V Q ↔ xX E mL_digest 46 [l0, l1, l2, l3, l4] (.int (nI 14) :: st) S V Q := xi (show decode cL_digest 44 = .ok (.bipush 14, 2) by decide +kernel) rfl
theorem pL_digest_46 : xX E mL_digest 46 [l0, l1, l2, l3, l4] (.int y :: .int x :: st) S V Q ↔ if y ≤ x then xX E mL_digest 70 [l0, l1, l2, l3, l4] st S V Q else xX E mL_digest 49 [l0, l1, l2, l3, l4] st S V Q := xi_icmp (show decode cL_digest 46 = .ok (.if_icmp .ge 24, 3) by decide +kernel) (by decide) xcb_ge
theorem pL_digest_49 : xX E mL_digest 49 [l0, l1, l2, l3, l4] st S V Q ↔ xX E mL_digest 52 [l0, l1, l2, l3, l4] (.long (lN 31) :: st) S V Q := xi_ldc2 (show decode cL_digest 49 = .ok (.ldc2_w 10, 3) by decide +kernel) xjt_6_10
theorem pL_digest_52 : xX E mL_digest 52 [l0, some (.long u), l2, l3, l4] st S V Q ↔ xX E mL_digest 53 [l0, some (.long u), l2, l3, l4] (.long u :: st) S V Q := xi (show decode cL_digest 52 = .ok (.lload_n 1, 1) by decide +kernel) rfl
theorem pL_digest_53 : xX E mL_digest 53 [l0, l1, l2, l3, l4] (.long w :: .long u :: st) S V Q ↔ xX E mL_digest 54 [l0, l1, l2, l3, l4] (.long (u * w) :: st) S V Q := xi (show decode cL_digest 53 = .ok (.lmul, 1) by decide +kernel) rfl
theorem pL_digest_54 : xX E mL_digest 54 [some (.ref a), l1, l2, l3, l4] st S V Q ↔ xX E mL_digest 55 [some (.ref a), l1, l2, l3, l4] (.ref a :: st) S V Q := xi (show decode cL_digest 54 = .ok (.aload_n 0, 1) by decide +kernel) rfl
theorem pL_digest_55 : xX E mL_digest 55 [l0, l1, l2, some (.int x), l4] st S V Q ↔ xX E mL_digest 56 [l0, l1, l2, some (.int x), l4] (.int x :: st) S V Q := xi (show decode cL_digest 55 = .ok (.iload_n 3, 1) by decide +kernel) rfl
theorem pL_digest_56 : xX E mL_digest 56 [l0, l1, l2, l3, some (.int x)] st S V Q ↔ xX E mL_digest 58 [l0, l1, l2, l3, some (.int x)] (.int x :: st) S V Q := xi (show decode cL_digest 56 = .ok (.iload 4, 2) by decide +kernel) rfl
theorem pL_digest_58 {x0 : Int32} {x1 : Int32} (h : xkd S a = 5) (hc : xcat st ≤ 8) : xX E mL_digest 58 [l0, l1, l2, l3, l4] (.int x1 :: .int x0 :: .ref a :: st) S V Q ↔ xC E mX4_of [.ref a, .int x0, .int x1] S V (fun v S V => xX E mL_digest 61 [l0, l1, l2, l3, l4] (v.toList ++ st) S V Q) := xi_callV (as := [.int x0, .int x1]) (show decode cL_digest 58 = .ok (.invokevirtual 18, 3) by decide +kernel) xct_6_18 rfl rfl (by decide) (Nat.le_of_ble_eq_true rfl) rfl h hc
theorem pL_digest_61 : xX E mL_digest 61 [l0, l1, l2, l3, l4] (.int x :: st) S V Q ↔ xX E mL_digest 62 [l0, l1, l2, l3, l4] (.long x.toInt64 :: st) S V Q := xi (show decode cL_digest 61 = .ok (.i2l, 1) by decide +kernel) rfl
theorem pL_digest_62 : xX E mL_digest 62 [l0, l1, l2, l3, l4] (.long w :: .long u :: st) S V Q ↔ xX E mL_digest 63 [l0, l1, l2, l3, l4] (.long (u + w) :: st) S V Q := xi (show decode cL_digest 62 = .ok (.ladd, 1) by decide +kernel) rfl
theorem pL_digest_63 (h : xnl l0 = true) : xX E mL_digest 63 [l0, l1, l2, l3, l4] (.long u :: st) S V Q ↔ xX E mL_digest 64 [l0, some (.long u), none, l3, l4] st S V Q := xi_st2 (j := 0) (v := .long u) (show decode cL_digest 63 = .ok (.lstore_n 1, 1) by decide +kernel) rfl h rfl rfl
theorem pL_digest_64 (h : xnl l3 = true) : xX E mL_digest 64 [l0, l1, l2, l3, some (.int (nI a))] st S V Q ↔ xX E mL_digest 67 [l0, l1, l2, l3, some (.int (nI (a + 1)))] st S V Q := xi_iinc (j := 3) (show decode cL_digest 64 = .ok (.iinc 4 1, 3) by decide +kernel) rfl h rfl (nI_add a 1) (Nat.le_of_ble_eq_true rfl) rfl
theorem pL_digest_67 : xX E mL_digest 67 [l0, l1, l2, l3, l4] st S V Q ↔ xX E mL_digest 42 [l0, l1, l2, l3, l4] st S V Q := xi_goto (show decode cL_digest 67 = .ok (.goto (-25), 3) by decide +kernel) (by decide)
theorem pL_digest_70 : xX E mL_digest 70 [l0, l1, l2, l3, l4] st S V Q ↔ xX E mL_digest 71 [l0, l1, l2, l3, l4] (.int (nI 0) :: st) S V Q := xi (show decode cL_digest 70 = .ok (.iconst 0, 1) by decide +kernel) rfl
theorem pL_digest_71 (h : xnl l3 = true) : xX E mL_digest 71 [l0, l1, l2, l3, l4] (.int x :: st) S V Q ↔ xX E mL_digest 73 [l0, l1, l2, l3, some (.int x)] st S V Q := xi_st1 (j := 3) (v := .int x) (show decode cL_digest 71 = .ok (.istore 4, 2) by decide +kernel) rfl h rfl rfl
theorem pL_digest_73 : xX E mL_digest 73 [l0, l1, l2, l3, some (.int x)] st S V Q ↔ xX E mL_digest 75 [l0, l1, l2, l3, some (.int x)] (.int x :: st) S V Q := xi (show decode cL_digest 73 = .ok (.iload 4, 2) by decide +kernel) rfl
theorem pL_digest_75 : xX E mL_digest 75 [some (.ref a), l1, l2, l3, l4] st S V Q ↔ xX E mL_digest 76 [some (.ref a), l1, l2, l3, l4] (.ref a :: st) S V Q := xi (show decode cL_digest 75 = .ok (.aload_n 0, 1) by decide +kernel) rfl
theorem pL_digest_76 : xX E mL_digest 76 [l0, l1, l2, some (.int x), l4] st S V Q ↔ xX E mL_digest 77 [l0, l1, l2, some (.int x), l4] (.int x :: st) S V Q := xi (show decode cL_digest 76 = .ok (.iload_n 3, 1) by decide +kernel) rfl
theorem pL_digest_77 : xX E mL_digest 77 [l0, l1, l2, l3, l4] st S V Q ↔ xX E mL_digest 78 [l0, l1, l2, l3, l4] (.int (nI 5) :: st) S V Q := xi (show decode cL_digest 77 = .ok (.iconst 5, 1) by decide +kernel) rfl
theorem pL_digest_78 {x0 : Int32} {x1 : Int32} (h : xkd S a = 5) (hc : xcat st ≤ 8) : xX E mL_digest 78 [l0, l1, l2, l3, l4] (.int x1 :: .int x0 :: .ref a :: st) S V Q ↔ xC E mX4_of [.ref a, .int x0, .int x1] S V (fun v S V => xX E mL_digest 81 [l0, l1, l2, l3, l4] (v.toList ++ st) S V Q) := xi_callV (as := [.int x0, .int x1]) (show decode cL_digest 78 = .ok (.invokevirtual 18, 3) by decide +kernel) xct_6_18 rfl rfl (by decide) (Nat.le_of_ble_eq_true rfl) rfl h hc
theorem pL_digest_81 : xX E mL_digest 81 [l0, l1, l2, l3, l4] (.int y :: .int x :: st) S V Q ↔ if y ≤ x then xX E mL_digest 105 [l0, l1, l2, l3, l4] st S V Q else xX E mL_digest 84 [l0, l1, l2, l3, l4] st S V Q := xi_icmp (show decode cL_digest 81 = .ok (.if_icmp .ge 24, 3) by decide +kernel) (by decide) xcb_ge
theorem pL_digest_84 : xX E mL_digest 84 [l0, l1, l2, l3, l4] st S V Q ↔ xX E mL_digest 87 [l0, l1, l2, l3, l4] (.long (lN 31) :: st) S V Q := xi_ldc2 (show decode cL_digest 84 = .ok (.ldc2_w 10, 3) by decide +kernel) xjt_6_10
theorem pL_digest_87 : xX E mL_digest 87 [l0, some (.long u), l2, l3, l4] st S V Q ↔ xX E mL_digest 88 [l0, some (.long u), l2, l3, l4] (.long u :: st) S V Q := xi (show decode cL_digest 87 = .ok (.lload_n 1, 1) by decide +kernel) rfl
theorem pL_digest_88 : xX E mL_digest 88 [l0, l1, l2, l3, l4] (.long w :: .long u :: st) S V Q ↔ xX E mL_digest 89 [l0, l1, l2, l3, l4] (.long (u * w) :: st) S V Q := xi (show decode cL_digest 88 = .ok (.lmul, 1) by decide +kernel) rfl
theorem pL_digest_89 : xX E mL_digest 89 [some (.ref a), l1, l2, l3, l4] st S V Q ↔ xX E mL_digest 90 [some (.ref a), l1, l2, l3, l4] (.ref a :: st) S V Q := xi (show decode cL_digest 89 = .ok (.aload_n 0, 1) by decide +kernel) rfl
theorem pL_digest_90 : xX E mL_digest 90 [l0, l1, l2, some (.int x), l4] st S V Q ↔ xX E mL_digest 91 [l0, l1, l2, some (.int x), l4] (.int x :: st) S V Q := xi (show decode cL_digest 90 = .ok (.iload_n 3, 1) by decide +kernel) rfl
theorem pL_digest_91 : xX E mL_digest 91 [l0, l1, l2, l3, some (.int x)] st S V Q ↔ xX E mL_digest 93 [l0, l1, l2, l3, some (.int x)] (.int x :: st) S V Q := xi (show decode cL_digest 91 = .ok (.iload 4, 2) by decide +kernel) rfl
theorem pL_digest_93 {x0 : Int32} {x1 : Int32} (h : xkd S a = 5) (hc : xcat st ≤ 8) : xX E mL_digest 93 [l0, l1, l2, l3, l4] (.int x1 :: .int x0 :: .ref a :: st) S V Q ↔ xC E mX4_inbox [.ref a, .int x0, .int x1] S V (fun v S V => xX E mL_digest 96 [l0, l1, l2, l3, l4] (v.toList ++ st) S V Q) := xi_callV (as := [.int x0, .int x1]) (show decode cL_digest 93 = .ok (.invokevirtual 22, 3) by decide +kernel) xct_6_22 rfl rfl (by decide) (Nat.le_of_ble_eq_true rfl) rfl h hc
theorem pL_digest_96 : xX E mL_digest 96 [l0, l1, l2, l3, l4] (.int x :: st) S V Q ↔ xX E mL_digest 97 [l0, l1, l2, l3, l4] (.long x.toInt64 :: st) S V Q := xi (show decode cL_digest 96 = .ok (.i2l, 1) by decide +kernel) rfl
theorem pL_digest_97 : xX E mL_digest 97 [l0, l1, l2, l3, l4] (.long w :: .long u :: st) S V Q ↔ xX E mL_digest 98 [l0, l1, l2, l3, l4] (.long (u + w) :: st) S V Q := xi (show decode cL_digest 97 = .ok (.ladd, 1) by decide +kernel) rfl
theorem pL_digest_98 (h : xnl l0 = true) : xX E mL_digest 98 [l0, l1, l2, l3, l4] (.long u :: st) S V Q ↔ xX E mL_digest 99 [l0, some (.long u), none, l3, l4] st S V Q := xi_st2 (j := 0) (v := .long u) (show decode cL_digest 98 = .ok (.lstore_n 1, 1) by decide +kernel) rfl h rfl rfl
theorem pL_digest_99 (h : xnl l3 = true) : xX E mL_digest 99 [l0, l1, l2, l3, some (.int (nI a))] st S V Q ↔ xX E mL_digest 102 [l0, l1, l2, l3, some (.int (nI (a + 1)))] st S V Q := xi_iinc (j := 3) (show decode cL_digest 99 = .ok (.iinc 4 1, 3) by decide +kernel) rfl h rfl (nI_add a 1) (Nat.le_of_ble_eq_true rfl) rfl
theorem pL_digest_102 : xX E mL_digest 102 [l0, l1, l2, l3, l4] st S V Q ↔ xX E mL_digest 73 [l0, l1, l2, l3, l4] st S V Q := xi_goto (show decode cL_digest 102 = .ok (.goto (-29), 3) by decide +kernel) (by decide)
theorem pL_digest_105 : xX E mL_digest 105 [l0, l1, l2, l3, l4] st S V Q ↔ xX E mL_digest 106 [l0, l1, l2, l3, l4] (.int (nI 0) :: st) S V Q := xi (show decode cL_digest 105 = .ok (.iconst 0, 1) by decide +kernel) rfl
theorem pL_digest_106 (h : xnl l3 = true) : xX E mL_digest 106 [l0, l1, l2, l3, l4] (.int x :: st) S V Q ↔ xX E mL_digest 108 [l0, l1, l2, l3, some (.int x)] st S V Q := xi_st1 (j := 3) (v := .int x) (show decode cL_digest 106 = .ok (.istore 4, 2) by decide +kernel) rfl h rfl rfl
theorem pL_digest_108 : xX E mL_digest 108 [l0, l1, l2, l3, some (.int x)] st S V Q ↔ xX E mL_digest 110 [l0, l1, l2, l3, some (.int x)] (.int x :: st) S V Q := xi (show decode cL_digest 108 = .ok (.iload 4, 2) by decide +kernel) rfl
theorem pL_digest_110 : xX E mL_digest 110 [some (.ref a), l1, l2, l3, l4] st S V Q ↔ xX E mL_digest 111 [some (.ref a), l1, l2, l3, l4] (.ref a :: st) S V Q := xi (show decode cL_digest 110 = .ok (.aload_n 0, 1) by decide +kernel) rfl
theorem pL_digest_111 : xX E mL_digest 111 [l0, l1, l2, some (.int x), l4] st S V Q ↔ xX E mL_digest 112 [l0, l1, l2, some (.int x), l4] (.int x :: st) S V Q := xi (show decode cL_digest 111 = .ok (.iload_n 3, 1) by decide +kernel) rfl
theorem pL_digest_112 : xX E mL_digest 112 [l0, l1, l2, l3, l4] st S V Q ↔ xX E mL_digest 113 [l0, l1, l2, l3, l4] (.int (nI 0) :: st) S V Q := xi (show decode cL_digest 112 = .ok (.iconst 0, 1) by decide +kernel) rfl
theorem pL_digest_113 {x0 : Int32} {x1 : Int32} (h : xkd S a = 5) (hc : xcat st ≤ 8) : xX E mL_digest 113 [l0, l1, l2, l3, l4] (.int x1 :: .int x0 :: .ref a :: st) S V Q ↔ xC E mX4_of [.ref a, .int x0, .int x1] S V (fun v S V => xX E mL_digest 116 [l0, l1, l2, l3, l4] (v.toList ++ st) S V Q) := xi_callV (as := [.int x0, .int x1]) (show decode cL_digest 113 = .ok (.invokevirtual 18, 3) by decide +kernel) xct_6_18 rfl rfl (by decide) (Nat.le_of_ble_eq_true rfl) rfl h hc
theorem pL_digest_116 : xX E mL_digest 116 [l0, l1, l2, l3, l4] (.int y :: .int x :: st) S V Q ↔ if y ≤ x then xX E mL_digest 169 [l0, l1, l2, l3, l4] st S V Q else xX E mL_digest 119 [l0, l1, l2, l3, l4] st S V Q := xi_icmp (show decode cL_digest 116 = .ok (.if_icmp .ge 53, 3) by decide +kernel) (by decide) xcb_ge
theorem pL_digest_119 : xX E mL_digest 119 [l0, l1, l2, l3, l4] st S V Q ↔ xX E mL_digest 122 [l0, l1, l2, l3, l4] (.long (lN 31) :: st) S V Q := xi_ldc2 (show decode cL_digest 119 = .ok (.ldc2_w 10, 3) by decide +kernel) xjt_6_10
theorem pL_digest_122 : xX E mL_digest 122 [l0, l1, l2, l3, l4] st S V Q ↔ xX E mL_digest 125 [l0, l1, l2, l3, l4] (.long (lN 31) :: st) S V Q := xi_ldc2 (show decode cL_digest 122 = .ok (.ldc2_w 10, 3) by decide +kernel) xjt_6_10
theorem pL_digest_125 : xX E mL_digest 125 [l0, l1, l2, l3, l4] st S V Q ↔ xX E mL_digest 128 [l0, l1, l2, l3, l4] (.long (lN 31) :: st) S V Q := xi_ldc2 (show decode cL_digest 125 = .ok (.ldc2_w 10, 3) by decide +kernel) xjt_6_10
theorem pL_digest_128 : xX E mL_digest 128 [l0, some (.long u), l2, l3, l4] st S V Q ↔ xX E mL_digest 129 [l0, some (.long u), l2, l3, l4] (.long u :: st) S V Q := xi (show decode cL_digest 128 = .ok (.lload_n 1, 1) by decide +kernel) rfl
theorem pL_digest_129 : xX E mL_digest 129 [l0, l1, l2, l3, l4] (.long w :: .long u :: st) S V Q ↔ xX E mL_digest 130 [l0, l1, l2, l3, l4] (.long (u * w) :: st) S V Q := xi (show decode cL_digest 129 = .ok (.lmul, 1) by decide +kernel) rfl
theorem pL_digest_130 : xX E mL_digest 130 [some (.ref a), l1, l2, l3, l4] st S V Q ↔ xX E mL_digest 131 [some (.ref a), l1, l2, l3, l4] (.ref a :: st) S V Q := xi (show decode cL_digest 130 = .ok (.aload_n 0, 1) by decide +kernel) rfl
theorem pL_digest_131 : xX E mL_digest 131 [l0, l1, l2, some (.int x), l4] st S V Q ↔ xX E mL_digest 132 [l0, l1, l2, some (.int x), l4] (.int x :: st) S V Q := xi (show decode cL_digest 131 = .ok (.iload_n 3, 1) by decide +kernel) rfl
theorem pL_digest_132 : xX E mL_digest 132 [l0, l1, l2, l3, some (.int x)] st S V Q ↔ xX E mL_digest 134 [l0, l1, l2, l3, some (.int x)] (.int x :: st) S V Q := xi (show decode cL_digest 132 = .ok (.iload 4, 2) by decide +kernel) rfl
theorem pL_digest_134 : xX E mL_digest 134 [l0, l1, l2, l3, l4] st S V Q ↔ xX E mL_digest 135 [l0, l1, l2, l3, l4] (.int (nI 0) :: st) S V Q := xi (show decode cL_digest 134 = .ok (.iconst 0, 1) by decide +kernel) rfl
theorem pL_digest_135 {x0 : Int32} {x1 : Int32} {x2 : Int32} (h : xkd S a = 5) (hc : xcat st ≤ 8) : xX E mL_digest 135 [l0, l1, l2, l3, l4] (.int x2 :: .int x1 :: .int x0 :: .ref a :: st) S V Q ↔ xC E mX4_command [.ref a, .int x0, .int x1, .int x2] S V (fun v S V => xX E mL_digest 138 [l0, l1, l2, l3, l4] (v.toList ++ st) S V Q) := xi_callV (as := [.int x0, .int x1, .int x2]) (show decode cL_digest 135 = .ok (.invokevirtual 25, 3) by decide +kernel) xct_6_25 rfl rfl (by decide) (Nat.le_of_ble_eq_true rfl) rfl h hc
theorem pL_digest_138 : xX E mL_digest 138 [l0, l1, l2, l3, l4] (.int x :: st) S V Q ↔ xX E mL_digest 139 [l0, l1, l2, l3, l4] (.long x.toInt64 :: st) S V Q := xi (show decode cL_digest 138 = .ok (.i2l, 1) by decide +kernel) rfl
theorem pL_digest_139 : xX E mL_digest 139 [l0, l1, l2, l3, l4] (.long w :: .long u :: st) S V Q ↔ xX E mL_digest 140 [l0, l1, l2, l3, l4] (.long (u + w) :: st) S V Q := xi (show decode cL_digest 139 = .ok (.ladd, 1) by decide +kernel) rfl
theorem pL_digest_140 : xX E mL_digest 140 [l0, l1, l2, l3, l4] (.long w :: .long u :: st) S V Q ↔ xX E mL_digest 141 [l0, l1, l2, l3, l4] (.long (u * w) :: st) S V Q := xi (show decode cL_digest 140 = .ok (.lmul, 1) by decide +kernel) rfl
theorem pL_digest_141 : xX E mL_digest 141 [some (.ref a), l1, l2, l3, l4] st S V Q ↔ xX E mL_digest 142 [some (.ref a), l1, l2, l3, l4] (.ref a :: st) S V Q := xi (show decode cL_digest 141 = .ok (.aload_n 0, 1) by decide +kernel) rfl
theorem pL_digest_142 : xX E mL_digest 142 [l0, l1, l2, some (.int x), l4] st S V Q ↔ xX E mL_digest 143 [l0, l1, l2, some (.int x), l4] (.int x :: st) S V Q := xi (show decode cL_digest 142 = .ok (.iload_n 3, 1) by decide +kernel) rfl
theorem pL_digest_143 : xX E mL_digest 143 [l0, l1, l2, l3, some (.int x)] st S V Q ↔ xX E mL_digest 145 [l0, l1, l2, l3, some (.int x)] (.int x :: st) S V Q := xi (show decode cL_digest 143 = .ok (.iload 4, 2) by decide +kernel) rfl
theorem pL_digest_145 : xX E mL_digest 145 [l0, l1, l2, l3, l4] st S V Q ↔ xX E mL_digest 146 [l0, l1, l2, l3, l4] (.int (nI 1) :: st) S V Q := xi (show decode cL_digest 145 = .ok (.iconst 1, 1) by decide +kernel) rfl
theorem pL_digest_146 {x0 : Int32} {x1 : Int32} {x2 : Int32} (h : xkd S a = 5) (hc : xcat st ≤ 8) : xX E mL_digest 146 [l0, l1, l2, l3, l4] (.int x2 :: .int x1 :: .int x0 :: .ref a :: st) S V Q ↔ xC E mX4_command [.ref a, .int x0, .int x1, .int x2] S V (fun v S V => xX E mL_digest 149 [l0, l1, l2, l3, l4] (v.toList ++ st) S V Q) := xi_callV (as := [.int x0, .int x1, .int x2]) (show decode cL_digest 146 = .ok (.invokevirtual 25, 3) by decide +kernel) xct_6_25 rfl rfl (by decide) (Nat.le_of_ble_eq_true rfl) rfl h hc
theorem pL_digest_149 : xX E mL_digest 149 [l0, l1, l2, l3, l4] (.int x :: st) S V Q ↔ xX E mL_digest 150 [l0, l1, l2, l3, l4] (.long x.toInt64 :: st) S V Q := xi (show decode cL_digest 149 = .ok (.i2l, 1) by decide +kernel) rfl
theorem pL_digest_150 : xX E mL_digest 150 [l0, l1, l2, l3, l4] (.long w :: .long u :: st) S V Q ↔ xX E mL_digest 151 [l0, l1, l2, l3, l4] (.long (u + w) :: st) S V Q := xi (show decode cL_digest 150 = .ok (.ladd, 1) by decide +kernel) rfl
theorem pL_digest_151 : xX E mL_digest 151 [l0, l1, l2, l3, l4] (.long w :: .long u :: st) S V Q ↔ xX E mL_digest 152 [l0, l1, l2, l3, l4] (.long (u * w) :: st) S V Q := xi (show decode cL_digest 151 = .ok (.lmul, 1) by decide +kernel) rfl
theorem pL_digest_152 : xX E mL_digest 152 [some (.ref a), l1, l2, l3, l4] st S V Q ↔ xX E mL_digest 153 [some (.ref a), l1, l2, l3, l4] (.ref a :: st) S V Q := xi (show decode cL_digest 152 = .ok (.aload_n 0, 1) by decide +kernel) rfl
theorem pL_digest_153 : xX E mL_digest 153 [l0, l1, l2, some (.int x), l4] st S V Q ↔ xX E mL_digest 154 [l0, l1, l2, some (.int x), l4] (.int x :: st) S V Q := xi (show decode cL_digest 153 = .ok (.iload_n 3, 1) by decide +kernel) rfl
theorem pL_digest_154 : xX E mL_digest 154 [l0, l1, l2, l3, some (.int x)] st S V Q ↔ xX E mL_digest 156 [l0, l1, l2, l3, some (.int x)] (.int x :: st) S V Q := xi (show decode cL_digest 154 = .ok (.iload 4, 2) by decide +kernel) rfl
theorem pL_digest_156 : xX E mL_digest 156 [l0, l1, l2, l3, l4] st S V Q ↔ xX E mL_digest 157 [l0, l1, l2, l3, l4] (.int (nI 2) :: st) S V Q := xi (show decode cL_digest 156 = .ok (.iconst 2, 1) by decide +kernel) rfl
theorem pL_digest_157 {x0 : Int32} {x1 : Int32} {x2 : Int32} (h : xkd S a = 5) (hc : xcat st ≤ 8) : xX E mL_digest 157 [l0, l1, l2, l3, l4] (.int x2 :: .int x1 :: .int x0 :: .ref a :: st) S V Q ↔ xC E mX4_command [.ref a, .int x0, .int x1, .int x2] S V (fun v S V => xX E mL_digest 160 [l0, l1, l2, l3, l4] (v.toList ++ st) S V Q) := xi_callV (as := [.int x0, .int x1, .int x2]) (show decode cL_digest 157 = .ok (.invokevirtual 25, 3) by decide +kernel) xct_6_25 rfl rfl (by decide) (Nat.le_of_ble_eq_true rfl) rfl h hc
theorem pL_digest_160 : xX E mL_digest 160 [l0, l1, l2, l3, l4] (.int x :: st) S V Q ↔ xX E mL_digest 161 [l0, l1, l2, l3, l4] (.long x.toInt64 :: st) S V Q := xi (show decode cL_digest 160 = .ok (.i2l, 1) by decide +kernel) rfl
theorem pL_digest_161 : xX E mL_digest 161 [l0, l1, l2, l3, l4] (.long w :: .long u :: st) S V Q ↔ xX E mL_digest 162 [l0, l1, l2, l3, l4] (.long (u + w) :: st) S V Q := xi (show decode cL_digest 161 = .ok (.ladd, 1) by decide +kernel) rfl
theorem pL_digest_162 (h : xnl l0 = true) : xX E mL_digest 162 [l0, l1, l2, l3, l4] (.long u :: st) S V Q ↔ xX E mL_digest 163 [l0, some (.long u), none, l3, l4] st S V Q := xi_st2 (j := 0) (v := .long u) (show decode cL_digest 162 = .ok (.lstore_n 1, 1) by decide +kernel) rfl h rfl rfl
theorem pL_digest_163 (h : xnl l3 = true) : xX E mL_digest 163 [l0, l1, l2, l3, some (.int (nI a))] st S V Q ↔ xX E mL_digest 166 [l0, l1, l2, l3, some (.int (nI (a + 1)))] st S V Q := xi_iinc (j := 3) (show decode cL_digest 163 = .ok (.iinc 4 1, 3) by decide +kernel) rfl h rfl (nI_add a 1) (Nat.le_of_ble_eq_true rfl) rfl
theorem pL_digest_166 : xX E mL_digest 166 [l0, l1, l2, l3, l4] st S V Q ↔ xX E mL_digest 108 [l0, l1, l2, l3, l4] st S V Q := xi_goto (show decode cL_digest 166 = .ok (.goto (-58), 3) by decide +kernel) (by decide)
theorem pL_digest_169 (h : xnl l2 = true) : xX E mL_digest 169 [l0, l1, l2, some (.int (nI a)), l4] st S V Q ↔ xX E mL_digest 172 [l0, l1, l2, some (.int (nI (a + 1))), l4] st S V Q := xi_iinc (j := 2) (show decode cL_digest 169 = .ok (.iinc 3 1, 3) by decide +kernel) rfl h rfl (nI_add a 1) (Nat.le_of_ble_eq_true rfl) rfl
theorem pL_digest_172 : xX E mL_digest 172 [l0, l1, l2, l3, l4] st S V Q ↔ xX E mL_digest 33 [l0, l1, l2, l3, l4] st S V Q := xi_goto (show decode cL_digest 172 = .ok (.goto (-139), 3) by decide +kernel) (by decide)
theorem pL_digest_175 : xX E mL_digest 175 [l0, l1, l2, l3, l4] st S V Q ↔ xX E mL_digest 176 [l0, l1, l2, l3, l4] (.int (nI 0) :: st) S V Q := xi (show decode cL_digest 175 = .ok (.iconst 0, 1) by decide +kernel) rfl
theorem pL_digest_176 (h : xnl l2 = true) : xX E mL_digest 176 [l0, l1, l2, l3, l4] (.int x :: st) S V Q ↔ xX E mL_digest 177 [l0, l1, l2, some (.int x), l4] st S V Q := xi_st1 (j := 2) (v := .int x) (show decode cL_digest 176 = .ok (.istore_n 3, 1) by decide +kernel) rfl h rfl rfl
theorem pL_digest_177 : xX E mL_digest 177 [l0, l1, l2, some (.int x), l4] st S V Q ↔ xX E mL_digest 178 [l0, l1, l2, some (.int x), l4] (.int x :: st) S V Q := xi (show decode cL_digest 177 = .ok (.iload_n 3, 1) by decide +kernel) rfl
theorem pL_digest_178 : xX E mL_digest 178 [l0, l1, l2, l3, l4] st S V Q ↔ xX E mL_digest 179 [l0, l1, l2, l3, l4] (.int (nI 4) :: st) S V Q := xi (show decode cL_digest 178 = .ok (.iconst 4, 1) by decide +kernel) rfl
theorem pL_digest_179 : xX E mL_digest 179 [l0, l1, l2, l3, l4] (.int y :: .int x :: st) S V Q ↔ if y ≤ x then xX E mL_digest 201 [l0, l1, l2, l3, l4] st S V Q else xX E mL_digest 182 [l0, l1, l2, l3, l4] st S V Q := xi_icmp (show decode cL_digest 179 = .ok (.if_icmp .ge 22, 3) by decide +kernel) (by decide) xcb_ge
theorem pL_digest_182 : xX E mL_digest 182 [l0, l1, l2, l3, l4] st S V Q ↔ xX E mL_digest 185 [l0, l1, l2, l3, l4] (.long (lN 31) :: st) S V Q := xi_ldc2 (show decode cL_digest 182 = .ok (.ldc2_w 10, 3) by decide +kernel) xjt_6_10
theorem pL_digest_185 : xX E mL_digest 185 [l0, some (.long u), l2, l3, l4] st S V Q ↔ xX E mL_digest 186 [l0, some (.long u), l2, l3, l4] (.long u :: st) S V Q := xi (show decode cL_digest 185 = .ok (.lload_n 1, 1) by decide +kernel) rfl
theorem pL_digest_186 : xX E mL_digest 186 [l0, l1, l2, l3, l4] (.long w :: .long u :: st) S V Q ↔ xX E mL_digest 187 [l0, l1, l2, l3, l4] (.long (u * w) :: st) S V Q := xi (show decode cL_digest 186 = .ok (.lmul, 1) by decide +kernel) rfl
theorem pL_digest_187 : xX E mL_digest 187 [some (.ref a), l1, l2, l3, l4] st S V Q ↔ xX E mL_digest 188 [some (.ref a), l1, l2, l3, l4] (.ref a :: st) S V Q := xi (show decode cL_digest 187 = .ok (.aload_n 0, 1) by decide +kernel) rfl
theorem pL_digest_188 : xX E mL_digest 188 [l0, l1, l2, some (.int x), l4] st S V Q ↔ xX E mL_digest 189 [l0, l1, l2, some (.int x), l4] (.int x :: st) S V Q := xi (show decode cL_digest 188 = .ok (.iload_n 3, 1) by decide +kernel) rfl
theorem pL_digest_189 {x0 : Int32} (h : xkd S a = 5) (hc : xcat st ≤ 8) : xX E mL_digest 189 [l0, l1, l2, l3, l4] (.int x0 :: .ref a :: st) S V Q ↔ xC E mX4_holder [.ref a, .int x0] S V (fun v S V => xX E mL_digest 192 [l0, l1, l2, l3, l4] (v.toList ++ st) S V Q) := xi_callV (as := [.int x0]) (show decode cL_digest 189 = .ok (.invokevirtual 29, 3) by decide +kernel) xct_6_29 rfl rfl (by decide) (Nat.le_of_ble_eq_true rfl) rfl h hc
theorem pL_digest_192 : xX E mL_digest 192 [l0, l1, l2, l3, l4] (.int x :: st) S V Q ↔ xX E mL_digest 193 [l0, l1, l2, l3, l4] (.long x.toInt64 :: st) S V Q := xi (show decode cL_digest 192 = .ok (.i2l, 1) by decide +kernel) rfl
theorem pL_digest_193 : xX E mL_digest 193 [l0, l1, l2, l3, l4] (.long w :: .long u :: st) S V Q ↔ xX E mL_digest 194 [l0, l1, l2, l3, l4] (.long (u + w) :: st) S V Q := xi (show decode cL_digest 193 = .ok (.ladd, 1) by decide +kernel) rfl
theorem pL_digest_194 (h : xnl l0 = true) : xX E mL_digest 194 [l0, l1, l2, l3, l4] (.long u :: st) S V Q ↔ xX E mL_digest 195 [l0, some (.long u), none, l3, l4] st S V Q := xi_st2 (j := 0) (v := .long u) (show decode cL_digest 194 = .ok (.lstore_n 1, 1) by decide +kernel) rfl h rfl rfl
theorem pL_digest_195 (h : xnl l2 = true) : xX E mL_digest 195 [l0, l1, l2, some (.int (nI a)), l4] st S V Q ↔ xX E mL_digest 198 [l0, l1, l2, some (.int (nI (a + 1))), l4] st S V Q := xi_iinc (j := 2) (show decode cL_digest 195 = .ok (.iinc 3 1, 3) by decide +kernel) rfl h rfl (nI_add a 1) (Nat.le_of_ble_eq_true rfl) rfl
theorem pL_digest_198 : xX E mL_digest 198 [l0, l1, l2, l3, l4] st S V Q ↔ xX E mL_digest 177 [l0, l1, l2, l3, l4] st S V Q := xi_goto (show decode cL_digest 198 = .ok (.goto (-21), 3) by decide +kernel) (by decide)
theorem pL_digest_201 : xX E mL_digest 201 [l0, some (.long u), l2, l3, l4] st S V Q ↔ xX E mL_digest 202 [l0, some (.long u), l2, l3, l4] (.long u :: st) S V Q := xi (show decode cL_digest 201 = .ok (.lload_n 1, 1) by decide +kernel) rfl
theorem pL_digest_202 : xX E mL_digest 202 [l0, l1, l2, l3, l4] [.long u] S V Q ↔ Q (some (.long u)) S V := xi_retL (show decode cL_digest 202 = .ok (.lreturn, 1) by decide +kernel) rfl
-- TurnSlotsLaw.act(LTurnSlots;II)I
theorem pL_act_0 : xX E mL_act 0 [l0, some (.int x), l2, l3, l4, l5] st S V Q ↔ xX E mL_act 1 [l0, some (.int x), l2, l3, l4, l5] (.int x :: st) S V Q := xi (show decode cL_act 0 = .ok (.iload_n 1, 1) by decide +kernel) rfl
theorem pL_act_1 : xX E mL_act 1 [l0, l1, l2, l3, l4, l5] st S V Q ↔ xX E mL_act 2 [l0, l1, l2, l3, l4, l5] (.int (nI 4) :: st) S V Q := xi (show decode cL_act 1 = .ok (.iconst 4, 1) by decide +kernel) rfl
theorem pL_act_2 : xX E mL_act 2 [l0, l1, l2, l3, l4, l5] (.int y :: .int x :: st) S V Q ↔ xX E mL_act 3 [l0, l1, l2, l3, l4, l5] (.int (x >>> (y &&& 31)) :: st) S V Q := xi (show decode cL_act 2 = .ok (.ishr, 1) by decide +kernel) rfl
theorem pL_act_3 : xX E mL_act 3 [l0, l1, l2, l3, l4, l5] st S V Q ↔ xX E mL_act 5 [l0, l1, l2, l3, l4, l5] (.int (nI 8) :: st) S V Q := xi (show decode cL_act 3 = .ok (.bipush 8, 2) by decide +kernel) rfl
theorem pL_act_5 {x0 : Int32} {x1 : Int32} (hc : xcat st ≤ 8) : xX E mL_act 5 [l0, l1, l2, l3, l4, l5] (.int x1 :: .int x0 :: st) S V Q ↔ xC E mL_low [.int x0, .int x1] S V (fun v S V => xX E mL_act 8 [l0, l1, l2, l3, l4, l5] (v.toList ++ st) S V Q) := xi_callS (as := [.int x0, .int x1]) (show decode cL_act 5 = .ok (.invokestatic 32, 3) by decide +kernel) xct_6_32 (by decide) rfl rfl (by decide) (Nat.le_of_ble_eq_true rfl) hc
theorem pL_act_8 (h : xnl l2 = true) : xX E mL_act 8 [l0, l1, l2, l3, l4, l5] (.int x :: st) S V Q ↔ xX E mL_act 9 [l0, l1, l2, some (.int x), l4, l5] st S V Q := xi_st1 (j := 2) (v := .int x) (show decode cL_act 8 = .ok (.istore_n 3, 1) by decide +kernel) rfl h rfl rfl
theorem pL_act_9 : xX E mL_act 9 [l0, some (.int x), l2, l3, l4, l5] st S V Q ↔ xX E mL_act 10 [l0, some (.int x), l2, l3, l4, l5] (.int x :: st) S V Q := xi (show decode cL_act 9 = .ok (.iload_n 1, 1) by decide +kernel) rfl
theorem pL_act_10 : xX E mL_act 10 [l0, l1, l2, l3, l4, l5] st S V Q ↔ xX E mL_act 12 [l0, l1, l2, l3, l4, l5] (.int (nI 15) :: st) S V Q := xi (show decode cL_act 10 = .ok (.bipush 15, 2) by decide +kernel) rfl
theorem pL_act_12 : xX E mL_act 12 [l0, l1, l2, l3, l4, l5] (.int y :: .int x :: st) S V Q ↔ xX E mL_act 13 [l0, l1, l2, l3, l4, l5] (.int (x &&& y) :: st) S V Q := xi (show decode cL_act 12 = .ok (.iand, 1) by decide +kernel) rfl
theorem pL_act_13_k0 : xX E mL_act 13 [l0, l1, l2, l3, l4, l5] (.int (nI 0) :: st) S V Q ↔ xX E mL_act 64 [l0, l1, l2, l3, l4, l5] st S V Q := xi_tab (off := 51) (show decode cL_act 13 = .ok (.tableswitch 119 0 8 #[51, 63, 76, 86, 91, 91, 91, 91, 91], 51) by decide +kernel) (by decide) (by decide) (by decide)
theorem pL_act_13_k1 : xX E mL_act 13 [l0, l1, l2, l3, l4, l5] (.int (nI 1) :: st) S V Q ↔ xX E mL_act 76 [l0, l1, l2, l3, l4, l5] st S V Q := xi_tab (off := 63) (show decode cL_act 13 = .ok (.tableswitch 119 0 8 #[51, 63, 76, 86, 91, 91, 91, 91, 91], 51) by decide +kernel) (by decide) (by decide) (by decide)
theorem pL_act_13_k2 : xX E mL_act 13 [l0, l1, l2, l3, l4, l5] (.int (nI 2) :: st) S V Q ↔ xX E mL_act 89 [l0, l1, l2, l3, l4, l5] st S V Q := xi_tab (off := 76) (show decode cL_act 13 = .ok (.tableswitch 119 0 8 #[51, 63, 76, 86, 91, 91, 91, 91, 91], 51) by decide +kernel) (by decide) (by decide) (by decide)
theorem pL_act_13_k3 : xX E mL_act 13 [l0, l1, l2, l3, l4, l5] (.int (nI 3) :: st) S V Q ↔ xX E mL_act 99 [l0, l1, l2, l3, l4, l5] st S V Q := xi_tab (off := 86) (show decode cL_act 13 = .ok (.tableswitch 119 0 8 #[51, 63, 76, 86, 91, 91, 91, 91, 91], 51) by decide +kernel) (by decide) (by decide) (by decide)
theorem pL_act_13_k4 : xX E mL_act 13 [l0, l1, l2, l3, l4, l5] (.int (nI 4) :: st) S V Q ↔ xX E mL_act 104 [l0, l1, l2, l3, l4, l5] st S V Q := xi_tab (off := 91) (show decode cL_act 13 = .ok (.tableswitch 119 0 8 #[51, 63, 76, 86, 91, 91, 91, 91, 91], 51) by decide +kernel) (by decide) (by decide) (by decide)
theorem pL_act_13_k5 : xX E mL_act 13 [l0, l1, l2, l3, l4, l5] (.int (nI 5) :: st) S V Q ↔ xX E mL_act 104 [l0, l1, l2, l3, l4, l5] st S V Q := xi_tab (off := 91) (show decode cL_act 13 = .ok (.tableswitch 119 0 8 #[51, 63, 76, 86, 91, 91, 91, 91, 91], 51) by decide +kernel) (by decide) (by decide) (by decide)
theorem pL_act_13_k6 : xX E mL_act 13 [l0, l1, l2, l3, l4, l5] (.int (nI 6) :: st) S V Q ↔ xX E mL_act 104 [l0, l1, l2, l3, l4, l5] st S V Q := xi_tab (off := 91) (show decode cL_act 13 = .ok (.tableswitch 119 0 8 #[51, 63, 76, 86, 91, 91, 91, 91, 91], 51) by decide +kernel) (by decide) (by decide) (by decide)
theorem pL_act_13_k7 : xX E mL_act 13 [l0, l1, l2, l3, l4, l5] (.int (nI 7) :: st) S V Q ↔ xX E mL_act 104 [l0, l1, l2, l3, l4, l5] st S V Q := xi_tab (off := 91) (show decode cL_act 13 = .ok (.tableswitch 119 0 8 #[51, 63, 76, 86, 91, 91, 91, 91, 91], 51) by decide +kernel) (by decide) (by decide) (by decide)
theorem pL_act_13_k8 : xX E mL_act 13 [l0, l1, l2, l3, l4, l5] (.int (nI 8) :: st) S V Q ↔ xX E mL_act 104 [l0, l1, l2, l3, l4, l5] st S V Q := xi_tab (off := 91) (show decode cL_act 13 = .ok (.tableswitch 119 0 8 #[51, 63, 76, 86, 91, 91, 91, 91, 91], 51) by decide +kernel) (by decide) (by decide) (by decide)
theorem pL_act_13_d (h : x.toInt < 0 ∨ 8 < x.toInt) : xX E mL_act 13 [l0, l1, l2, l3, l4, l5] (.int x :: st) S V Q ↔ xX E mL_act 132 [l0, l1, l2, l3, l4, l5] st S V Q := xi_tab (off := 119) (show decode cL_act 13 = .ok (.tableswitch 119 0 8 #[51, 63, 76, 86, 91, 91, 91, 91, 91], 51) by decide +kernel) (if_pos h) (by decide) (by decide)
theorem pL_act_64 : xX E mL_act 64 [some (.ref a), l1, l2, l3, l4, l5] st S V Q ↔ xX E mL_act 65 [some (.ref a), l1, l2, l3, l4, l5] (.ref a :: st) S V Q := xi (show decode cL_act 64 = .ok (.aload_n 0, 1) by decide +kernel) rfl
theorem pL_act_65 : xX E mL_act 65 [l0, l1, l2, some (.int x), l4, l5] st S V Q ↔ xX E mL_act 66 [l0, l1, l2, some (.int x), l4, l5] (.int x :: st) S V Q := xi (show decode cL_act 65 = .ok (.iload_n 3, 1) by decide +kernel) rfl
theorem pL_act_66 : xX E mL_act 66 [l0, l1, some (.int x), l3, l4, l5] st S V Q ↔ xX E mL_act 67 [l0, l1, some (.int x), l3, l4, l5] (.int x :: st) S V Q := xi (show decode cL_act 66 = .ok (.iload_n 2, 1) by decide +kernel) rfl
theorem pL_act_67 : xX E mL_act 67 [l0, l1, l2, l3, l4, l5] st S V Q ↔ xX E mL_act 69 [l0, l1, l2, l3, l4, l5] (.int (nI 11) :: st) S V Q := xi (show decode cL_act 67 = .ok (.bipush 11, 2) by decide +kernel) rfl
theorem pL_act_69 {x0 : Int32} {x1 : Int32} (hc : xcat st ≤ 8) : xX E mL_act 69 [l0, l1, l2, l3, l4, l5] (.int x1 :: .int x0 :: st) S V Q ↔ xC E mL_low [.int x0, .int x1] S V (fun v S V => xX E mL_act 72 [l0, l1, l2, l3, l4, l5] (v.toList ++ st) S V Q) := xi_callS (as := [.int x0, .int x1]) (show decode cL_act 69 = .ok (.invokestatic 32, 3) by decide +kernel) xct_6_32 (by decide) rfl rfl (by decide) (Nat.le_of_ble_eq_true rfl) hc
theorem pL_act_72 {x0 : Int32} {x1 : Int32} (h : xkd S a = 5) (hc : xcat st ≤ 8) : xX E mL_act 72 [l0, l1, l2, l3, l4, l5] (.int x1 :: .int x0 :: .ref a :: st) S V Q ↔ xC E mX4_prefer [.ref a, .int x0, .int x1] S V (fun v S V => xX E mL_act 75 [l0, l1, l2, l3, l4, l5] (v.toList ++ st) S V Q) := xi_callV (as := [.int x0, .int x1]) (show decode cL_act 72 = .ok (.invokevirtual 37, 3) by decide +kernel) xct_6_37 rfl rfl (by decide) (Nat.le_of_ble_eq_true rfl) rfl h hc
theorem pL_act_75 : xX E mL_act 75 [l0, l1, l2, l3, l4, l5] [.int x] S V Q ↔ Q (some (.int x)) S V := xi_retI (show decode cL_act 75 = .ok (.ireturn, 1) by decide +kernel) rfl
theorem pL_act_76 : xX E mL_act 76 [some (.ref a), l1, l2, l3, l4, l5] st S V Q ↔ xX E mL_act 77 [some (.ref a), l1, l2, l3, l4, l5] (.ref a :: st) S V Q := xi (show decode cL_act 76 = .ok (.aload_n 0, 1) by decide +kernel) rfl
theorem pL_act_77 : xX E mL_act 77 [l0, l1, l2, some (.int x), l4, l5] st S V Q ↔ xX E mL_act 78 [l0, l1, l2, some (.int x), l4, l5] (.int x :: st) S V Q := xi (show decode cL_act 77 = .ok (.iload_n 3, 1) by decide +kernel) rfl
theorem pL_act_78 : xX E mL_act 78 [l0, l1, some (.int x), l3, l4, l5] st S V Q ↔ xX E mL_act 79 [l0, l1, some (.int x), l3, l4, l5] (.int x :: st) S V Q := xi (show decode cL_act 78 = .ok (.iload_n 2, 1) by decide +kernel) rfl
theorem pL_act_79 : xX E mL_act 79 [l0, l1, l2, l3, l4, l5] st S V Q ↔ xX E mL_act 82 [l0, l1, l2, l3, l4, l5] (.int (nI 1001) :: st) S V Q := xi (show decode cL_act 79 = .ok (.sipush 1001, 3) by decide +kernel) rfl
theorem pL_act_82 {x0 : Int32} {x1 : Int32} (hc : xcat st ≤ 8) : xX E mL_act 82 [l0, l1, l2, l3, l4, l5] (.int x1 :: .int x0 :: st) S V Q ↔ xC E mL_low [.int x0, .int x1] S V (fun v S V => xX E mL_act 85 [l0, l1, l2, l3, l4, l5] (v.toList ++ st) S V Q) := xi_callS (as := [.int x0, .int x1]) (show decode cL_act 82 = .ok (.invokestatic 32, 3) by decide +kernel) xct_6_32 (by decide) rfl rfl (by decide) (Nat.le_of_ble_eq_true rfl) hc
theorem pL_act_85 {x0 : Int32} {x1 : Int32} (h : xkd S a = 5) (hc : xcat st ≤ 8) : xX E mL_act 85 [l0, l1, l2, l3, l4, l5] (.int x1 :: .int x0 :: .ref a :: st) S V Q ↔ xC E mX4_post [.ref a, .int x0, .int x1] S V (fun v S V => xX E mL_act 88 [l0, l1, l2, l3, l4, l5] (v.toList ++ st) S V Q) := xi_callV (as := [.int x0, .int x1]) (show decode cL_act 85 = .ok (.invokevirtual 40, 3) by decide +kernel) xct_6_40 rfl rfl (by decide) (Nat.le_of_ble_eq_true rfl) rfl h hc
theorem pL_act_88 : xX E mL_act 88 [l0, l1, l2, l3, l4, l5] [.int x] S V Q ↔ Q (some (.int x)) S V := xi_retI (show decode cL_act 88 = .ok (.ireturn, 1) by decide +kernel) rfl
theorem pL_act_89 : xX E mL_act 89 [some (.ref a), l1, l2, l3, l4, l5] st S V Q ↔ xX E mL_act 90 [some (.ref a), l1, l2, l3, l4, l5] (.ref a :: st) S V Q := xi (show decode cL_act 89 = .ok (.aload_n 0, 1) by decide +kernel) rfl
theorem pL_act_90 : xX E mL_act 90 [l0, l1, some (.int x), l3, l4, l5] st S V Q ↔ xX E mL_act 91 [l0, l1, some (.int x), l3, l4, l5] (.int x :: st) S V Q := xi (show decode cL_act 90 = .ok (.iload_n 2, 1) by decide +kernel) rfl
theorem pL_act_91 : xX E mL_act 91 [l0, l1, l2, l3, l4, l5] st S V Q ↔ xX E mL_act 92 [l0, l1, l2, l3, l4, l5] (.int (nI 5) :: st) S V Q := xi (show decode cL_act 91 = .ok (.iconst 5, 1) by decide +kernel) rfl
theorem pL_act_92 {x0 : Int32} {x1 : Int32} (hc : xcat st ≤ 8) : xX E mL_act 92 [l0, l1, l2, l3, l4, l5] (.int x1 :: .int x0 :: st) S V Q ↔ xC E mL_low [.int x0, .int x1] S V (fun v S V => xX E mL_act 95 [l0, l1, l2, l3, l4, l5] (v.toList ++ st) S V Q) := xi_callS (as := [.int x0, .int x1]) (show decode cL_act 92 = .ok (.invokestatic 32, 3) by decide +kernel) xct_6_32 (by decide) rfl rfl (by decide) (Nat.le_of_ble_eq_true rfl) hc
theorem pL_act_95 {x0 : Int32} (h : xkd S a = 5) (hc : xcat st ≤ 8) : xX E mL_act 95 [l0, l1, l2, l3, l4, l5] (.int x0 :: .ref a :: st) S V Q ↔ xC E mX4_release [.ref a, .int x0] S V (fun v S V => xX E mL_act 98 [l0, l1, l2, l3, l4, l5] (v.toList ++ st) S V Q) := xi_callV (as := [.int x0]) (show decode cL_act 95 = .ok (.invokevirtual 43, 3) by decide +kernel) xct_6_43 rfl rfl (by decide) (Nat.le_of_ble_eq_true rfl) rfl h hc
theorem pL_act_98 : xX E mL_act 98 [l0, l1, l2, l3, l4, l5] [.int x] S V Q ↔ Q (some (.int x)) S V := xi_retI (show decode cL_act 98 = .ok (.ireturn, 1) by decide +kernel) rfl
theorem pL_act_99 : xX E mL_act 99 [some (.ref a), l1, l2, l3, l4, l5] st S V Q ↔ xX E mL_act 100 [some (.ref a), l1, l2, l3, l4, l5] (.ref a :: st) S V Q := xi (show decode cL_act 99 = .ok (.aload_n 0, 1) by decide +kernel) rfl
theorem pL_act_100  (h : xkd S a = 5) (hc : xcat st ≤ 8) : xX E mL_act 100 [l0, l1, l2, l3, l4, l5] (.ref a :: st) S V Q ↔ xC E mX4_run [.ref a] S V (fun v S V => xX E mL_act 103 [l0, l1, l2, l3, l4, l5] (v.toList ++ st) S V Q) := xi_callV (as := []) (show decode cL_act 100 = .ok (.invokevirtual 46, 3) by decide +kernel) xct_6_46 rfl rfl (by decide) (Nat.le_of_ble_eq_true rfl) rfl h hc
theorem pL_act_103 : xX E mL_act 103 [l0, l1, l2, l3, l4, l5] [.int x] S V Q ↔ Q (some (.int x)) S V := xi_retI (show decode cL_act 103 = .ok (.ireturn, 1) by decide +kernel) rfl
theorem pL_act_104 : xX E mL_act 104 [some (.ref a), l1, l2, l3, l4, l5] st S V Q ↔ xX E mL_act 105 [some (.ref a), l1, l2, l3, l4, l5] (.ref a :: st) S V Q := xi (show decode cL_act 104 = .ok (.aload_n 0, 1) by decide +kernel) rfl
theorem pL_act_105 : xX E mL_act 105 [l0, l1, l2, l3, l4, l5] st S V Q ↔ xX E mL_act 106 [l0, l1, l2, l3, l4, l5] (.int (nI 1) :: st) S V Q := xi (show decode cL_act 105 = .ok (.iconst 1, 1) by decide +kernel) rfl
theorem pL_act_106 : xX E mL_act 106 [l0, l1, some (.int x), l3, l4, l5] st S V Q ↔ xX E mL_act 107 [l0, l1, some (.int x), l3, l4, l5] (.int x :: st) S V Q := xi (show decode cL_act 106 = .ok (.iload_n 2, 1) by decide +kernel) rfl
theorem pL_act_107 : xX E mL_act 107 [l0, l1, some (.int x), l3, l4, l5] st S V Q ↔ xX E mL_act 108 [l0, l1, some (.int x), l3, l4, l5] (.int x :: st) S V Q := xi (show decode cL_act 107 = .ok (.iload_n 2, 1) by decide +kernel) rfl
theorem pL_act_108 : xX E mL_act 108 [l0, l1, l2, l3, l4, l5] st S V Q ↔ xX E mL_act 110 [l0, l1, l2, l3, l4, l5] (.int (nI 10) :: st) S V Q := xi (show decode cL_act 108 = .ok (.bipush 10, 2) by decide +kernel) rfl
theorem pL_act_110 : xX E mL_act 110 [l0, l1, l2, l3, l4, l5] (.int y :: .int x :: st) S V Q ↔ xX E mL_act 111 [l0, l1, l2, l3, l4, l5] (.int (x >>> (y &&& 31)) :: st) S V Q := xi (show decode cL_act 110 = .ok (.ishr, 1) by decide +kernel) rfl
theorem pL_act_111 : xX E mL_act 111 [l0, l1, l2, l3, l4, l5] st S V Q ↔ xX E mL_act 112 [l0, l1, l2, l3, l4, l5] (.int (nI 3) :: st) S V Q := xi (show decode cL_act 111 = .ok (.iconst 3, 1) by decide +kernel) rfl
theorem pL_act_112 : xX E mL_act 112 [l0, l1, l2, l3, l4, l5] (.int y :: .int x :: st) S V Q ↔ xX E mL_act 113 [l0, l1, l2, l3, l4, l5] (.int (x &&& y) :: st) S V Q := xi (show decode cL_act 112 = .ok (.iand, 1) by decide +kernel) rfl
theorem pL_act_113 : xX E mL_act 113 [l0, l1, l2, l3, l4, l5] (.int x :: st) S V Q ↔ if ¬ x = nI 0 then xX E mL_act 122 [l0, l1, l2, l3, l4, l5] st S V Q else xX E mL_act 116 [l0, l1, l2, l3, l4, l5] st S V Q := xi_if (show decode cL_act 113 = .ok (.ifCond .ne 9, 3) by decide +kernel) (by decide) xcb_ne
theorem pL_act_116 : xX E mL_act 116 [l0, l1, l2, l3, l4, l5] st S V Q ↔ xX E mL_act 119 [l0, l1, l2, l3, l4, l5] (.int (nI 220) :: st) S V Q := xi (show decode cL_act 116 = .ok (.sipush 220, 3) by decide +kernel) rfl
theorem pL_act_119 : xX E mL_act 119 [l0, l1, l2, l3, l4, l5] st S V Q ↔ xX E mL_act 124 [l0, l1, l2, l3, l4, l5] st S V Q := xi_goto (show decode cL_act 119 = .ok (.goto 5, 3) by decide +kernel) (by decide)
theorem pL_act_122 : xX E mL_act 122 [l0, l1, l2, l3, l4, l5] st S V Q ↔ xX E mL_act 124 [l0, l1, l2, l3, l4, l5] (.int (nI 12) :: st) S V Q := xi (show decode cL_act 122 = .ok (.bipush 12, 2) by decide +kernel) rfl
theorem pL_act_124 {x0 : Int32} {x1 : Int32} (hc : xcat st ≤ 8) : xX E mL_act 124 [l0, l1, l2, l3, l4, l5] (.int x1 :: .int x0 :: st) S V Q ↔ xC E mL_low [.int x0, .int x1] S V (fun v S V => xX E mL_act 127 [l0, l1, l2, l3, l4, l5] (v.toList ++ st) S V Q) := xi_callS (as := [.int x0, .int x1]) (show decode cL_act 124 = .ok (.invokestatic 32, 3) by decide +kernel) xct_6_32 (by decide) rfl rfl (by decide) (Nat.le_of_ble_eq_true rfl) hc
theorem pL_act_127 : xX E mL_act 127 [l0, l1, l2, l3, l4, l5] (.int y :: .int x :: st) S V Q ↔ xX E mL_act 128 [l0, l1, l2, l3, l4, l5] (.int (x + y) :: st) S V Q := xi (show decode cL_act 127 = .ok (.iadd, 1) by decide +kernel) rfl
theorem pL_act_128 {x0 : Int32} (h : xkd S a = 5) (hc : xcat st ≤ 8) : xX E mL_act 128 [l0, l1, l2, l3, l4, l5] (.int x0 :: .ref a :: st) S V Q ↔ xC E mX4_step [.ref a, .int x0] S V (fun v S V => xX E mL_act 131 [l0, l1, l2, l3, l4, l5] (v.toList ++ st) S V Q) := xi_callV (as := [.int x0]) (show decode cL_act 128 = .ok (.invokevirtual 50, 3) by decide +kernel) xct_6_50 rfl rfl (by decide) (Nat.le_of_ble_eq_true rfl) rfl h hc
theorem pL_act_131 : xX E mL_act 131 [l0, l1, l2, l3, l4, l5] [.int x] S V Q ↔ Q (some (.int x)) S V := xi_retI (show decode cL_act 131 = .ok (.ireturn, 1) by decide +kernel) rfl
theorem pL_act_132 : xX E mL_act 132 [l0, l1, some (.int x), l3, l4, l5] st S V Q ↔ xX E mL_act 133 [l0, l1, some (.int x), l3, l4, l5] (.int x :: st) S V Q := xi (show decode cL_act 132 = .ok (.iload_n 2, 1) by decide +kernel) rfl
theorem pL_act_133 : xX E mL_act 133 [l0, l1, l2, l3, l4, l5] st S V Q ↔ xX E mL_act 135 [l0, l1, l2, l3, l4, l5] (.int (nI 7) :: st) S V Q := xi (show decode cL_act 133 = .ok (.bipush 7, 2) by decide +kernel) rfl
theorem pL_act_135 {x0 : Int32} {x1 : Int32} (hc : xcat st ≤ 8) : xX E mL_act 135 [l0, l1, l2, l3, l4, l5] (.int x1 :: .int x0 :: st) S V Q ↔ xC E mL_low [.int x0, .int x1] S V (fun v S V => xX E mL_act 138 [l0, l1, l2, l3, l4, l5] (v.toList ++ st) S V Q) := xi_callS (as := [.int x0, .int x1]) (show decode cL_act 135 = .ok (.invokestatic 32, 3) by decide +kernel) xct_6_32 (by decide) rfl rfl (by decide) (Nat.le_of_ble_eq_true rfl) hc
theorem pL_act_138 (h : xnl l3 = true) : xX E mL_act 138 [l0, l1, l2, l3, l4, l5] (.int x :: st) S V Q ↔ xX E mL_act 140 [l0, l1, l2, l3, some (.int x), l5] st S V Q := xi_st1 (j := 3) (v := .int x) (show decode cL_act 138 = .ok (.istore 4, 2) by decide +kernel) rfl h rfl rfl
theorem pL_act_140 : xX E mL_act 140 [l0, l1, some (.int x), l3, l4, l5] st S V Q ↔ xX E mL_act 141 [l0, l1, some (.int x), l3, l4, l5] (.int x :: st) S V Q := xi (show decode cL_act 140 = .ok (.iload_n 2, 1) by decide +kernel) rfl
theorem pL_act_141 : xX E mL_act 141 [l0, l1, l2, l3, l4, l5] st S V Q ↔ xX E mL_act 142 [l0, l1, l2, l3, l4, l5] (.int (nI 4) :: st) S V Q := xi (show decode cL_act 141 = .ok (.iconst 4, 1) by decide +kernel) rfl
theorem pL_act_142 : xX E mL_act 142 [l0, l1, l2, l3, l4, l5] (.int y :: .int x :: st) S V Q ↔ xX E mL_act 143 [l0, l1, l2, l3, l4, l5] (.int (x >>> (y &&& 31)) :: st) S V Q := xi (show decode cL_act 142 = .ok (.ishr, 1) by decide +kernel) rfl
theorem pL_act_143 : xX E mL_act 143 [l0, l1, l2, l3, l4, l5] st S V Q ↔ xX E mL_act 145 [l0, l1, l2, l3, l4, l5] (.int (nI 16) :: st) S V Q := xi (show decode cL_act 143 = .ok (.bipush 16, 2) by decide +kernel) rfl
theorem pL_act_145 {x0 : Int32} {x1 : Int32} (hc : xcat st ≤ 8) : xX E mL_act 145 [l0, l1, l2, l3, l4, l5] (.int x1 :: .int x0 :: st) S V Q ↔ xC E mL_low [.int x0, .int x1] S V (fun v S V => xX E mL_act 148 [l0, l1, l2, l3, l4, l5] (v.toList ++ st) S V Q) := xi_callS (as := [.int x0, .int x1]) (show decode cL_act 145 = .ok (.invokestatic 32, 3) by decide +kernel) xct_6_32 (by decide) rfl rfl (by decide) (Nat.le_of_ble_eq_true rfl) hc
theorem pL_act_148 (h : xnl l4 = true) : xX E mL_act 148 [l0, l1, l2, l3, l4, l5] (.int x :: st) S V Q ↔ xX E mL_act 150 [l0, l1, l2, l3, l4, some (.int x)] st S V Q := xi_st1 (j := 4) (v := .int x) (show decode cL_act 148 = .ok (.istore 5, 2) by decide +kernel) rfl h rfl rfl
theorem pL_act_150 : xX E mL_act 150 [some (.ref a), l1, l2, l3, l4, l5] st S V Q ↔ xX E mL_act 151 [some (.ref a), l1, l2, l3, l4, l5] (.ref a :: st) S V Q := xi (show decode cL_act 150 = .ok (.aload_n 0, 1) by decide +kernel) rfl
theorem pL_act_151 : xX E mL_act 151 [l0, l1, l2, some (.int x), l4, l5] st S V Q ↔ xX E mL_act 152 [l0, l1, l2, some (.int x), l4, l5] (.int x :: st) S V Q := xi (show decode cL_act 151 = .ok (.iload_n 3, 1) by decide +kernel) rfl
theorem pL_act_152 : xX E mL_act 152 [l0, l1, l2, l3, some (.int x), l5] st S V Q ↔ xX E mL_act 154 [l0, l1, l2, l3, some (.int x), l5] (.int x :: st) S V Q := xi (show decode cL_act 152 = .ok (.iload 4, 2) by decide +kernel) rfl
theorem pL_act_154 : xX E mL_act 154 [l0, l1, l2, l3, some (.int x), l5] st S V Q ↔ xX E mL_act 156 [l0, l1, l2, l3, some (.int x), l5] (.int x :: st) S V Q := xi (show decode cL_act 154 = .ok (.iload 4, 2) by decide +kernel) rfl
theorem pL_act_156 : xX E mL_act 156 [l0, l1, l2, l3, l4, l5] st S V Q ↔ xX E mL_act 157 [l0, l1, l2, l3, l4, l5] (.int (nI 2) :: st) S V Q := xi (show decode cL_act 156 = .ok (.iconst 2, 1) by decide +kernel) rfl
theorem pL_act_157 : xX E mL_act 157 [l0, l1, l2, l3, l4, l5] (.int y :: .int x :: st) S V Q ↔ if ¬ x = y then xX E mL_act 164 [l0, l1, l2, l3, l4, l5] st S V Q else xX E mL_act 160 [l0, l1, l2, l3, l4, l5] st S V Q := xi_icmp (show decode cL_act 157 = .ok (.if_icmp .ne 7, 3) by decide +kernel) (by decide) xcb_ne
theorem pL_act_160 : xX E mL_act 160 [l0, l1, l2, l3, l4, l5] st S V Q ↔ xX E mL_act 161 [l0, l1, l2, l3, l4, l5] (.int (nI 0) :: st) S V Q := xi (show decode cL_act 160 = .ok (.iconst 0, 1) by decide +kernel) rfl
theorem pL_act_161 : xX E mL_act 161 [l0, l1, l2, l3, l4, l5] st S V Q ↔ xX E mL_act 185 [l0, l1, l2, l3, l4, l5] st S V Q := xi_goto (show decode cL_act 161 = .ok (.goto 24, 3) by decide +kernel) (by decide)
theorem pL_act_164 : xX E mL_act 164 [l0, l1, l2, l3, some (.int x), l5] st S V Q ↔ xX E mL_act 166 [l0, l1, l2, l3, some (.int x), l5] (.int x :: st) S V Q := xi (show decode cL_act 164 = .ok (.iload 4, 2) by decide +kernel) rfl
theorem pL_act_166 : xX E mL_act 166 [l0, l1, l2, l3, l4, l5] st S V Q ↔ xX E mL_act 167 [l0, l1, l2, l3, l4, l5] (.int (nI 3) :: st) S V Q := xi (show decode cL_act 166 = .ok (.iconst 3, 1) by decide +kernel) rfl
theorem pL_act_167 : xX E mL_act 167 [l0, l1, l2, l3, l4, l5] (.int y :: .int x :: st) S V Q ↔ if x = y then xX E mL_act 176 [l0, l1, l2, l3, l4, l5] st S V Q else xX E mL_act 170 [l0, l1, l2, l3, l4, l5] st S V Q := xi_icmp (show decode cL_act 167 = .ok (.if_icmp .eq 9, 3) by decide +kernel) (by decide) xcb_eq
theorem pL_act_170 : xX E mL_act 170 [l0, l1, l2, l3, some (.int x), l5] st S V Q ↔ xX E mL_act 172 [l0, l1, l2, l3, some (.int x), l5] (.int x :: st) S V Q := xi (show decode cL_act 170 = .ok (.iload 4, 2) by decide +kernel) rfl
theorem pL_act_172 : xX E mL_act 172 [l0, l1, l2, l3, l4, l5] st S V Q ↔ xX E mL_act 173 [l0, l1, l2, l3, l4, l5] (.int (nI 4) :: st) S V Q := xi (show decode cL_act 172 = .ok (.iconst 4, 1) by decide +kernel) rfl
theorem pL_act_173 : xX E mL_act 173 [l0, l1, l2, l3, l4, l5] (.int y :: .int x :: st) S V Q ↔ if ¬ x = y then xX E mL_act 183 [l0, l1, l2, l3, l4, l5] st S V Q else xX E mL_act 176 [l0, l1, l2, l3, l4, l5] st S V Q := xi_icmp (show decode cL_act 173 = .ok (.if_icmp .ne 10, 3) by decide +kernel) (by decide) xcb_ne
theorem pL_act_176 : xX E mL_act 176 [l0, l1, l2, l3, l4, some (.int x)] st S V Q ↔ xX E mL_act 178 [l0, l1, l2, l3, l4, some (.int x)] (.int x :: st) S V Q := xi (show decode cL_act 176 = .ok (.iload 5, 2) by decide +kernel) rfl
theorem pL_act_178 : xX E mL_act 178 [l0, l1, l2, l3, l4, l5] st S V Q ↔ xX E mL_act 179 [l0, l1, l2, l3, l4, l5] (.int (nI 3) :: st) S V Q := xi (show decode cL_act 178 = .ok (.iconst 3, 1) by decide +kernel) rfl
theorem pL_act_179 : xX E mL_act 179 [l0, l1, l2, l3, l4, l5] (.int y :: .int x :: st) S V Q ↔ xX E mL_act 180 [l0, l1, l2, l3, l4, l5] (.int (x &&& y) :: st) S V Q := xi (show decode cL_act 179 = .ok (.iand, 1) by decide +kernel) rfl
theorem pL_act_180 : xX E mL_act 180 [l0, l1, l2, l3, l4, l5] st S V Q ↔ xX E mL_act 185 [l0, l1, l2, l3, l4, l5] st S V Q := xi_goto (show decode cL_act 180 = .ok (.goto 5, 3) by decide +kernel) (by decide)
theorem pL_act_183 : xX E mL_act 183 [l0, l1, l2, l3, l4, some (.int x)] st S V Q ↔ xX E mL_act 185 [l0, l1, l2, l3, l4, some (.int x)] (.int x :: st) S V Q := xi (show decode cL_act 183 = .ok (.iload 5, 2) by decide +kernel) rfl
theorem pL_act_185 {x0 : Int32} {x1 : Int32} {x2 : Int32} (h : xkd S a = 5) (hc : xcat st ≤ 8) : xX E mL_act 185 [l0, l1, l2, l3, l4, l5] (.int x2 :: .int x1 :: .int x0 :: .ref a :: st) S V Q ↔ xC E mX4_add [.ref a, .int x0, .int x1, .int x2] S V (fun v S V => xX E mL_act 188 [l0, l1, l2, l3, l4, l5] (v.toList ++ st) S V Q) := xi_callV (as := [.int x0, .int x1, .int x2]) (show decode cL_act 185 = .ok (.invokevirtual 53, 3) by decide +kernel) xct_6_53 rfl rfl (by decide) (Nat.le_of_ble_eq_true rfl) rfl h hc
theorem pL_act_188 : xX E mL_act 188 [l0, l1, l2, l3, l4, l5] [.int x] S V Q ↔ Q (some (.int x)) S V := xi_retI (show decode cL_act 188 = .ok (.ireturn, 1) by decide +kernel) rfl
-- TurnSlotsLaw.law([I)Z
theorem pL_law_0 : xX E mL_law 0 [l0, l1, l2, l3, l4, l5, l6, l7, l8, l9, l10, l11, l12, l13, l14] st S V Q ↔ xX E mL_law 3 [l0, l1, l2, l3, l4, l5, l6, l7, l8, l9, l10, l11, l12, l13, l14] (.ref S.2.1 :: st) (xnew S 5 0 6) (xrow V S.2.1 (fun _ => 0)) Q := xi_new (show decode cL_law 0 = .ok (.new 13, 3) by decide +kernel) xkt_6_13
theorem pL_law_3 : xX E mL_law 3 [l0, l1, l2, l3, l4, l5, l6, l7, l8, l9, l10, l11, l12, l13, l14] (.ref a :: st) S V Q ↔ xX E mL_law 4 [l0, l1, l2, l3, l4, l5, l6, l7, l8, l9, l10, l11, l12, l13, l14] (.ref a :: .ref a :: st) S V Q := xi (show decode cL_law 3 = .ok (.dup, 1) by decide +kernel) rfl
theorem pL_law_3i : xX E mL_law 3 [l0, l1, l2, l3, l4, l5, l6, l7, l8, l9, l10, l11, l12, l13, l14] (.int x :: st) S V Q ↔ xX E mL_law 4 [l0, l1, l2, l3, l4, l5, l6, l7, l8, l9, l10, l11, l12, l13, l14] (.int x :: .int x :: st) S V Q := xi (show decode cL_law 3 = .ok (.dup, 1) by decide +kernel) rfl
theorem pL_law_4  (hc : xcat st ≤ 8) : xX E mL_law 4 [l0, l1, l2, l3, l4, l5, l6, l7, l8, l9, l10, l11, l12, l13, l14] (.ref a :: st) S V Q ↔ xC E mX4_init [.ref a] S V (fun v S V => xX E mL_law 7 [l0, l1, l2, l3, l4, l5, l6, l7, l8, l9, l10, l11, l12, l13, l14] (v.toList ++ st) S V Q) := xi_callI (as := []) (show decode cL_law 4 = .ok (.invokespecial 56, 3) by decide +kernel) xct_6_56 (by decide) rfl rfl (by decide) (Nat.le_of_ble_eq_true rfl) hc
theorem pL_law_7 (h : xnl l0 = true) : xX E mL_law 7 [l0, l1, l2, l3, l4, l5, l6, l7, l8, l9, l10, l11, l12, l13, l14] (.ref a :: st) S V Q ↔ xX E mL_law 8 [l0, some (.ref a), l2, l3, l4, l5, l6, l7, l8, l9, l10, l11, l12, l13, l14] st S V Q := xi_st1 (j := 0) (v := .ref a) (show decode cL_law 7 = .ok (.astore_n 1, 1) by decide +kernel) rfl h rfl rfl
theorem pL_law_8 : xX E mL_law 8 [l0, some (.ref a), l2, l3, l4, l5, l6, l7, l8, l9, l10, l11, l12, l13, l14] st S V Q ↔ xX E mL_law 9 [l0, some (.ref a), l2, l3, l4, l5, l6, l7, l8, l9, l10, l11, l12, l13, l14] (.ref a :: st) S V Q := xi (show decode cL_law 8 = .ok (.aload_n 1, 1) by decide +kernel) rfl
theorem pL_law_9 {a1 : Nat} (hc : xcat st ≤ 8) : xX E mL_law 9 [l0, l1, l2, l3, l4, l5, l6, l7, l8, l9, l10, l11, l12, l13, l14] (.ref a1 :: st) S V Q ↔ xC E mL_digest [.ref a1] S V (fun v S V => xX E mL_law 12 [l0, l1, l2, l3, l4, l5, l6, l7, l8, l9, l10, l11, l12, l13, l14] (v.toList ++ st) S V Q) := xi_callS (as := [.ref a1]) (show decode cL_law 9 = .ok (.invokestatic 57, 3) by decide +kernel) xct_6_57 (by decide) rfl rfl (by decide) (Nat.le_of_ble_eq_true rfl) hc
theorem pL_law_12 (h : xnl l1 = true) : xX E mL_law 12 [l0, l1, l2, l3, l4, l5, l6, l7, l8, l9, l10, l11, l12, l13, l14] (.long u :: st) S V Q ↔ xX E mL_law 13 [l0, l1, some (.long u), none, l4, l5, l6, l7, l8, l9, l10, l11, l12, l13, l14] st S V Q := xi_st2 (j := 1) (v := .long u) (show decode cL_law 12 = .ok (.lstore_n 2, 1) by decide +kernel) rfl h rfl rfl
theorem pL_law_13 : xX E mL_law 13 [l0, some (.ref a), l2, l3, l4, l5, l6, l7, l8, l9, l10, l11, l12, l13, l14] st S V Q ↔ xX E mL_law 14 [l0, some (.ref a), l2, l3, l4, l5, l6, l7, l8, l9, l10, l11, l12, l13, l14] (.ref a :: st) S V Q := xi (show decode cL_law 13 = .ok (.aload_n 1, 1) by decide +kernel) rfl
theorem pL_law_14 : xX E mL_law 14 [l0, l1, l2, l3, l4, l5, l6, l7, l8, l9, l10, l11, l12, l13, l14] st S V Q ↔ xX E mL_law 15 [l0, l1, l2, l3, l4, l5, l6, l7, l8, l9, l10, l11, l12, l13, l14] (.int (nI 1) :: st) S V Q := xi (show decode cL_law 14 = .ok (.iconst 1, 1) by decide +kernel) rfl
theorem pL_law_15 {x0 : Int32} (h : xkd S a = 5) (hc : xcat st ≤ 8) : xX E mL_law 15 [l0, l1, l2, l3, l4, l5, l6, l7, l8, l9, l10, l11, l12, l13, l14] (.int x0 :: .ref a :: st) S V Q ↔ xC E mX4_save [.ref a, .int x0] S V (fun v S V => xX E mL_law 18 [l0, l1, l2, l3, l4, l5, l6, l7, l8, l9, l10, l11, l12, l13, l14] (v.toList ++ st) S V Q) := xi_callV (as := [.int x0]) (show decode cL_law 15 = .ok (.invokevirtual 61, 3) by decide +kernel) xct_6_61 rfl rfl (by decide) (Nat.le_of_ble_eq_true rfl) rfl h hc
theorem pL_law_18 : xX E mL_law 18 [l0, l1, l2, l3, l4, l5, l6, l7, l8, l9, l10, l11, l12, l13, l14] (.int x :: st) S V Q ↔ if ¬ x = nI 0 then xX E mL_law 40 [l0, l1, l2, l3, l4, l5, l6, l7, l8, l9, l10, l11, l12, l13, l14] st S V Q else xX E mL_law 21 [l0, l1, l2, l3, l4, l5, l6, l7, l8, l9, l10, l11, l12, l13, l14] st S V Q := xi_if (show decode cL_law 18 = .ok (.ifCond .ne 22, 3) by decide +kernel) (by decide) xcb_ne
theorem pL_law_21 : xX E mL_law 21 [l0, some (.ref a), l2, l3, l4, l5, l6, l7, l8, l9, l10, l11, l12, l13, l14] st S V Q ↔ xX E mL_law 22 [l0, some (.ref a), l2, l3, l4, l5, l6, l7, l8, l9, l10, l11, l12, l13, l14] (.ref a :: st) S V Q := xi (show decode cL_law 21 = .ok (.aload_n 1, 1) by decide +kernel) rfl
theorem pL_law_22  (h : xkd S a = 5) (hc : xcat st ≤ 8) : xX E mL_law 22 [l0, l1, l2, l3, l4, l5, l6, l7, l8, l9, l10, l11, l12, l13, l14] (.ref a :: st) S V Q ↔ xC E mX4_undo [.ref a] S V (fun v S V => xX E mL_law 25 [l0, l1, l2, l3, l4, l5, l6, l7, l8, l9, l10, l11, l12, l13, l14] (v.toList ++ st) S V Q) := xi_callV (as := []) (show decode cL_law 22 = .ok (.invokevirtual 64, 3) by decide +kernel) xct_6_64 rfl rfl (by decide) (Nat.le_of_ble_eq_true rfl) rfl h hc
theorem pL_law_25 : xX E mL_law 25 [l0, l1, l2, l3, l4, l5, l6, l7, l8, l9, l10, l11, l12, l13, l14] st S V Q ↔ xX E mL_law 27 [l0, l1, l2, l3, l4, l5, l6, l7, l8, l9, l10, l11, l12, l13, l14] (.int (-5) :: st) S V Q := xi (show decode cL_law 25 = .ok (.bipush (-5), 2) by decide +kernel) rfl
theorem pL_law_27 : xX E mL_law 27 [l0, l1, l2, l3, l4, l5, l6, l7, l8, l9, l10, l11, l12, l13, l14] (.int y :: .int x :: st) S V Q ↔ if ¬ x = y then xX E mL_law 40 [l0, l1, l2, l3, l4, l5, l6, l7, l8, l9, l10, l11, l12, l13, l14] st S V Q else xX E mL_law 30 [l0, l1, l2, l3, l4, l5, l6, l7, l8, l9, l10, l11, l12, l13, l14] st S V Q := xi_icmp (show decode cL_law 27 = .ok (.if_icmp .ne 13, 3) by decide +kernel) (by decide) xcb_ne
theorem pL_law_30 : xX E mL_law 30 [l0, some (.ref a), l2, l3, l4, l5, l6, l7, l8, l9, l10, l11, l12, l13, l14] st S V Q ↔ xX E mL_law 31 [l0, some (.ref a), l2, l3, l4, l5, l6, l7, l8, l9, l10, l11, l12, l13, l14] (.ref a :: st) S V Q := xi (show decode cL_law 30 = .ok (.aload_n 1, 1) by decide +kernel) rfl
theorem pL_law_31 : xX E mL_law 31 [l0, l1, l2, l3, l4, l5, l6, l7, l8, l9, l10, l11, l12, l13, l14] st S V Q ↔ xX E mL_law 32 [l0, l1, l2, l3, l4, l5, l6, l7, l8, l9, l10, l11, l12, l13, l14] (.int (nI 0) :: st) S V Q := xi (show decode cL_law 31 = .ok (.iconst 0, 1) by decide +kernel) rfl
theorem pL_law_32 {x0 : Int32} (h : xkd S a = 5) (hc : xcat st ≤ 8) : xX E mL_law 32 [l0, l1, l2, l3, l4, l5, l6, l7, l8, l9, l10, l11, l12, l13, l14] (.int x0 :: .ref a :: st) S V Q ↔ xC E mX4_restore [.ref a, .int x0] S V (fun v S V => xX E mL_law 35 [l0, l1, l2, l3, l4, l5, l6, l7, l8, l9, l10, l11, l12, l13, l14] (v.toList ++ st) S V Q) := xi_callV (as := [.int x0]) (show decode cL_law 32 = .ok (.invokevirtual 67, 3) by decide +kernel) xct_6_67 rfl rfl (by decide) (Nat.le_of_ble_eq_true rfl) rfl h hc
theorem pL_law_35 : xX E mL_law 35 [l0, l1, l2, l3, l4, l5, l6, l7, l8, l9, l10, l11, l12, l13, l14] st S V Q ↔ xX E mL_law 37 [l0, l1, l2, l3, l4, l5, l6, l7, l8, l9, l10, l11, l12, l13, l14] (.int (-5) :: st) S V Q := xi (show decode cL_law 35 = .ok (.bipush (-5), 2) by decide +kernel) rfl
theorem pL_law_37 : xX E mL_law 37 [l0, l1, l2, l3, l4, l5, l6, l7, l8, l9, l10, l11, l12, l13, l14] (.int y :: .int x :: st) S V Q ↔ if x = y then xX E mL_law 42 [l0, l1, l2, l3, l4, l5, l6, l7, l8, l9, l10, l11, l12, l13, l14] st S V Q else xX E mL_law 40 [l0, l1, l2, l3, l4, l5, l6, l7, l8, l9, l10, l11, l12, l13, l14] st S V Q := xi_icmp (show decode cL_law 37 = .ok (.if_icmp .eq 5, 3) by decide +kernel) (by decide) xcb_eq
theorem pL_law_40 : xX E mL_law 40 [l0, l1, l2, l3, l4, l5, l6, l7, l8, l9, l10, l11, l12, l13, l14] st S V Q ↔ xX E mL_law 41 [l0, l1, l2, l3, l4, l5, l6, l7, l8, l9, l10, l11, l12, l13, l14] (.int (nI 0) :: st) S V Q := xi (show decode cL_law 40 = .ok (.iconst 0, 1) by decide +kernel) rfl
theorem pL_law_41 (h : b < 2) : xX E mL_law 41 [l0, l1, l2, l3, l4, l5, l6, l7, l8, l9, l10, l11, l12, l13, l14] [.int (nI b)] S V Q ↔ Q (some (.int (nI b))) S V := xi_retZ (show decode cL_law 41 = .ok (.ireturn, 1) by decide +kernel) rfl h
theorem pL_law_42 : xX E mL_law 42 [l0, l1, l2, l3, l4, l5, l6, l7, l8, l9, l10, l11, l12, l13, l14] st S V Q ↔ xX E mL_law 43 [l0, l1, l2, l3, l4, l5, l6, l7, l8, l9, l10, l11, l12, l13, l14] (.int (nI 0) :: st) S V Q := xi (show decode cL_law 42 = .ok (.iconst 0, 1) by decide +kernel) rfl
theorem pL_law_43 (h : xnl l3 = true) : xX E mL_law 43 [l0, l1, l2, l3, l4, l5, l6, l7, l8, l9, l10, l11, l12, l13, l14] (.int x :: st) S V Q ↔ xX E mL_law 45 [l0, l1, l2, l3, some (.int x), l5, l6, l7, l8, l9, l10, l11, l12, l13, l14] st S V Q := xi_st1 (j := 3) (v := .int x) (show decode cL_law 43 = .ok (.istore 4, 2) by decide +kernel) rfl h rfl rfl
theorem pL_law_45 : xX E mL_law 45 [l0, l1, l2, l3, some (.int x), l5, l6, l7, l8, l9, l10, l11, l12, l13, l14] st S V Q ↔ xX E mL_law 47 [l0, l1, l2, l3, some (.int x), l5, l6, l7, l8, l9, l10, l11, l12, l13, l14] (.int x :: st) S V Q := xi (show decode cL_law 45 = .ok (.iload 4, 2) by decide +kernel) rfl
theorem pL_law_47 : xX E mL_law 47 [l0, l1, l2, l3, l4, l5, l6, l7, l8, l9, l10, l11, l12, l13, l14] st S V Q ↔ xX E mL_law 49 [l0, l1, l2, l3, l4, l5, l6, l7, l8, l9, l10, l11, l12, l13, l14] (.int (nI 30) :: st) S V Q := xi (show decode cL_law 47 = .ok (.bipush 30, 2) by decide +kernel) rfl
theorem pL_law_49 : xX E mL_law 49 [l0, l1, l2, l3, l4, l5, l6, l7, l8, l9, l10, l11, l12, l13, l14] (.int y :: .int x :: st) S V Q ↔ if y ≤ x then xX E mL_law 302 [l0, l1, l2, l3, l4, l5, l6, l7, l8, l9, l10, l11, l12, l13, l14] st S V Q else xX E mL_law 52 [l0, l1, l2, l3, l4, l5, l6, l7, l8, l9, l10, l11, l12, l13, l14] st S V Q := xi_icmp (show decode cL_law 49 = .ok (.if_icmp .ge 253, 3) by decide +kernel) (by decide) xcb_ge
theorem pL_law_52 : xX E mL_law 52 [some (.ref a), l1, l2, l3, l4, l5, l6, l7, l8, l9, l10, l11, l12, l13, l14] st S V Q ↔ xX E mL_law 53 [some (.ref a), l1, l2, l3, l4, l5, l6, l7, l8, l9, l10, l11, l12, l13, l14] (.ref a :: st) S V Q := xi (show decode cL_law 52 = .ok (.aload_n 0, 1) by decide +kernel) rfl
theorem pL_law_53 : xX E mL_law 53 [l0, l1, l2, l3, l4, l5, l6, l7, l8, l9, l10, l11, l12, l13, l14] st S V Q ↔ xX E mL_law 54 [l0, l1, l2, l3, l4, l5, l6, l7, l8, l9, l10, l11, l12, l13, l14] (.int (nI 2) :: st) S V Q := xi (show decode cL_law 53 = .ok (.iconst 2, 1) by decide +kernel) rfl
theorem pL_law_54 : xX E mL_law 54 [l0, l1, l2, l3, some (.int x), l5, l6, l7, l8, l9, l10, l11, l12, l13, l14] st S V Q ↔ xX E mL_law 56 [l0, l1, l2, l3, some (.int x), l5, l6, l7, l8, l9, l10, l11, l12, l13, l14] (.int x :: st) S V Q := xi (show decode cL_law 54 = .ok (.iload 4, 2) by decide +kernel) rfl
theorem pL_law_56 : xX E mL_law 56 [l0, l1, l2, l3, l4, l5, l6, l7, l8, l9, l10, l11, l12, l13, l14] (.int y :: .int x :: st) S V Q ↔ xX E mL_law 57 [l0, l1, l2, l3, l4, l5, l6, l7, l8, l9, l10, l11, l12, l13, l14] (.int (x * y) :: st) S V Q := xi (show decode cL_law 56 = .ok (.imul, 1) by decide +kernel) rfl
theorem pL_law_57 {a1 : Nat} {x0 : Int32} (hc : xcat st ≤ 8) : xX E mL_law 57 [l0, l1, l2, l3, l4, l5, l6, l7, l8, l9, l10, l11, l12, l13, l14] (.int x0 :: .ref a1 :: st) S V Q ↔ xC E mL_cell [.ref a1, .int x0] S V (fun v S V => xX E mL_law 60 [l0, l1, l2, l3, l4, l5, l6, l7, l8, l9, l10, l11, l12, l13, l14] (v.toList ++ st) S V Q) := xi_callS (as := [.ref a1, .int x0]) (show decode cL_law 57 = .ok (.invokestatic 70, 3) by decide +kernel) xct_6_70 (by decide) rfl rfl (by decide) (Nat.le_of_ble_eq_true rfl) hc
theorem pL_law_60 (h : xnl l4 = true) : xX E mL_law 60 [l0, l1, l2, l3, l4, l5, l6, l7, l8, l9, l10, l11, l12, l13, l14] (.int x :: st) S V Q ↔ xX E mL_law 62 [l0, l1, l2, l3, l4, some (.int x), l6, l7, l8, l9, l10, l11, l12, l13, l14] st S V Q := xi_st1 (j := 4) (v := .int x) (show decode cL_law 60 = .ok (.istore 5, 2) by decide +kernel) rfl h rfl rfl
theorem pL_law_62 : xX E mL_law 62 [some (.ref a), l1, l2, l3, l4, l5, l6, l7, l8, l9, l10, l11, l12, l13, l14] st S V Q ↔ xX E mL_law 63 [some (.ref a), l1, l2, l3, l4, l5, l6, l7, l8, l9, l10, l11, l12, l13, l14] (.ref a :: st) S V Q := xi (show decode cL_law 62 = .ok (.aload_n 0, 1) by decide +kernel) rfl
theorem pL_law_63 : xX E mL_law 63 [l0, l1, l2, l3, l4, l5, l6, l7, l8, l9, l10, l11, l12, l13, l14] st S V Q ↔ xX E mL_law 64 [l0, l1, l2, l3, l4, l5, l6, l7, l8, l9, l10, l11, l12, l13, l14] (.int (nI 2) :: st) S V Q := xi (show decode cL_law 63 = .ok (.iconst 2, 1) by decide +kernel) rfl
theorem pL_law_64 : xX E mL_law 64 [l0, l1, l2, l3, some (.int x), l5, l6, l7, l8, l9, l10, l11, l12, l13, l14] st S V Q ↔ xX E mL_law 66 [l0, l1, l2, l3, some (.int x), l5, l6, l7, l8, l9, l10, l11, l12, l13, l14] (.int x :: st) S V Q := xi (show decode cL_law 64 = .ok (.iload 4, 2) by decide +kernel) rfl
theorem pL_law_66 : xX E mL_law 66 [l0, l1, l2, l3, l4, l5, l6, l7, l8, l9, l10, l11, l12, l13, l14] (.int y :: .int x :: st) S V Q ↔ xX E mL_law 67 [l0, l1, l2, l3, l4, l5, l6, l7, l8, l9, l10, l11, l12, l13, l14] (.int (x * y) :: st) S V Q := xi (show decode cL_law 66 = .ok (.imul, 1) by decide +kernel) rfl
theorem pL_law_67 : xX E mL_law 67 [l0, l1, l2, l3, l4, l5, l6, l7, l8, l9, l10, l11, l12, l13, l14] st S V Q ↔ xX E mL_law 68 [l0, l1, l2, l3, l4, l5, l6, l7, l8, l9, l10, l11, l12, l13, l14] (.int (nI 1) :: st) S V Q := xi (show decode cL_law 67 = .ok (.iconst 1, 1) by decide +kernel) rfl
theorem pL_law_68 : xX E mL_law 68 [l0, l1, l2, l3, l4, l5, l6, l7, l8, l9, l10, l11, l12, l13, l14] (.int y :: .int x :: st) S V Q ↔ xX E mL_law 69 [l0, l1, l2, l3, l4, l5, l6, l7, l8, l9, l10, l11, l12, l13, l14] (.int (x + y) :: st) S V Q := xi (show decode cL_law 68 = .ok (.iadd, 1) by decide +kernel) rfl
theorem pL_law_69 {a1 : Nat} {x0 : Int32} (hc : xcat st ≤ 8) : xX E mL_law 69 [l0, l1, l2, l3, l4, l5, l6, l7, l8, l9, l10, l11, l12, l13, l14] (.int x0 :: .ref a1 :: st) S V Q ↔ xC E mL_cell [.ref a1, .int x0] S V (fun v S V => xX E mL_law 72 [l0, l1, l2, l3, l4, l5, l6, l7, l8, l9, l10, l11, l12, l13, l14] (v.toList ++ st) S V Q) := xi_callS (as := [.ref a1, .int x0]) (show decode cL_law 69 = .ok (.invokestatic 70, 3) by decide +kernel) xct_6_70 (by decide) rfl rfl (by decide) (Nat.le_of_ble_eq_true rfl) hc
theorem pL_law_72 (h : xnl l5 = true) : xX E mL_law 72 [l0, l1, l2, l3, l4, l5, l6, l7, l8, l9, l10, l11, l12, l13, l14] (.int x :: st) S V Q ↔ xX E mL_law 74 [l0, l1, l2, l3, l4, l5, some (.int x), l7, l8, l9, l10, l11, l12, l13, l14] st S V Q := xi_st1 (j := 5) (v := .int x) (show decode cL_law 72 = .ok (.istore 6, 2) by decide +kernel) rfl h rfl rfl
theorem pL_law_74 : xX E mL_law 74 [l0, some (.ref a), l2, l3, l4, l5, l6, l7, l8, l9, l10, l11, l12, l13, l14] st S V Q ↔ xX E mL_law 75 [l0, some (.ref a), l2, l3, l4, l5, l6, l7, l8, l9, l10, l11, l12, l13, l14] (.ref a :: st) S V Q := xi (show decode cL_law 74 = .ok (.aload_n 1, 1) by decide +kernel) rfl
theorem pL_law_75 {a1 : Nat} (hc : xcat st ≤ 8) : xX E mL_law 75 [l0, l1, l2, l3, l4, l5, l6, l7, l8, l9, l10, l11, l12, l13, l14] (.ref a1 :: st) S V Q ↔ xC E mL_digest [.ref a1] S V (fun v S V => xX E mL_law 78 [l0, l1, l2, l3, l4, l5, l6, l7, l8, l9, l10, l11, l12, l13, l14] (v.toList ++ st) S V Q) := xi_callS (as := [.ref a1]) (show decode cL_law 75 = .ok (.invokestatic 57, 3) by decide +kernel) xct_6_57 (by decide) rfl rfl (by decide) (Nat.le_of_ble_eq_true rfl) hc
theorem pL_law_78 (h : xnl l6 = true) : xX E mL_law 78 [l0, l1, l2, l3, l4, l5, l6, l7, l8, l9, l10, l11, l12, l13, l14] (.long u :: st) S V Q ↔ xX E mL_law 80 [l0, l1, l2, l3, l4, l5, l6, some (.long u), none, l9, l10, l11, l12, l13, l14] st S V Q := xi_st2 (j := 6) (v := .long u) (show decode cL_law 78 = .ok (.lstore 7, 2) by decide +kernel) rfl h rfl rfl
theorem pL_law_80 : xX E mL_law 80 [l0, some (.ref a), l2, l3, l4, l5, l6, l7, l8, l9, l10, l11, l12, l13, l14] st S V Q ↔ xX E mL_law 81 [l0, some (.ref a), l2, l3, l4, l5, l6, l7, l8, l9, l10, l11, l12, l13, l14] (.ref a :: st) S V Q := xi (show decode cL_law 80 = .ok (.aload_n 1, 1) by decide +kernel) rfl
theorem pL_law_81 : xX E mL_law 81 [l0, l1, l2, l3, l4, l5, l6, l7, l8, l9, l10, l11, l12, l13, l14] st S V Q ↔ xX E mL_law 83 [l0, l1, l2, l3, l4, l5, l6, l7, l8, l9, l10, l11, l12, l13, l14] (.int (nI 9) :: st) S V Q := xi (show decode cL_law 81 = .ok (.bipush 9, 2) by decide +kernel) rfl
theorem pL_law_83 {x0 : Int32} (h : xkd S a = 5) (hc : xcat st ≤ 8) : xX E mL_law 83 [l0, l1, l2, l3, l4, l5, l6, l7, l8, l9, l10, l11, l12, l13, l14] (.int x0 :: .ref a :: st) S V Q ↔ xC E mX4_count [.ref a, .int x0] S V (fun v S V => xX E mL_law 86 [l0, l1, l2, l3, l4, l5, l6, l7, l8, l9, l10, l11, l12, l13, l14] (v.toList ++ st) S V Q) := xi_callV (as := [.int x0]) (show decode cL_law 83 = .ok (.invokevirtual 12, 3) by decide +kernel) xct_6_12 rfl rfl (by decide) (Nat.le_of_ble_eq_true rfl) rfl h hc
theorem pL_law_86 (h : xnl l8 = true) : xX E mL_law 86 [l0, l1, l2, l3, l4, l5, l6, l7, l8, l9, l10, l11, l12, l13, l14] (.int x :: st) S V Q ↔ xX E mL_law 88 [l0, l1, l2, l3, l4, l5, l6, l7, l8, some (.int x), l10, l11, l12, l13, l14] st S V Q := xi_st1 (j := 8) (v := .int x) (show decode cL_law 86 = .ok (.istore 9, 2) by decide +kernel) rfl h rfl rfl
theorem pL_law_88 : xX E mL_law 88 [l0, some (.ref a), l2, l3, l4, l5, l6, l7, l8, l9, l10, l11, l12, l13, l14] st S V Q ↔ xX E mL_law 89 [l0, some (.ref a), l2, l3, l4, l5, l6, l7, l8, l9, l10, l11, l12, l13, l14] (.ref a :: st) S V Q := xi (show decode cL_law 88 = .ok (.aload_n 1, 1) by decide +kernel) rfl
theorem pL_law_89 : xX E mL_law 89 [l0, l1, l2, l3, l4, some (.int x), l6, l7, l8, l9, l10, l11, l12, l13, l14] st S V Q ↔ xX E mL_law 91 [l0, l1, l2, l3, l4, some (.int x), l6, l7, l8, l9, l10, l11, l12, l13, l14] (.int x :: st) S V Q := xi (show decode cL_law 89 = .ok (.iload 5, 2) by decide +kernel) rfl
theorem pL_law_91 : xX E mL_law 91 [l0, l1, l2, l3, l4, l5, some (.int x), l7, l8, l9, l10, l11, l12, l13, l14] st S V Q ↔ xX E mL_law 93 [l0, l1, l2, l3, l4, l5, some (.int x), l7, l8, l9, l10, l11, l12, l13, l14] (.int x :: st) S V Q := xi (show decode cL_law 91 = .ok (.iload 6, 2) by decide +kernel) rfl
theorem pL_law_93 {a1 : Nat} {x0 : Int32} {x1 : Int32} (hc : xcat st ≤ 8) : xX E mL_law 93 [l0, l1, l2, l3, l4, l5, l6, l7, l8, l9, l10, l11, l12, l13, l14] (.int x1 :: .int x0 :: .ref a1 :: st) S V Q ↔ xC E mL_act [.ref a1, .int x0, .int x1] S V (fun v S V => xX E mL_law 96 [l0, l1, l2, l3, l4, l5, l6, l7, l8, l9, l10, l11, l12, l13, l14] (v.toList ++ st) S V Q) := xi_callS (as := [.ref a1, .int x0, .int x1]) (show decode cL_law 93 = .ok (.invokestatic 74, 3) by decide +kernel) xct_6_74 (by decide) rfl rfl (by decide) (Nat.le_of_ble_eq_true rfl) hc
theorem pL_law_96 (h : xnl l9 = true) : xX E mL_law 96 [l0, l1, l2, l3, l4, l5, l6, l7, l8, l9, l10, l11, l12, l13, l14] (.int x :: st) S V Q ↔ xX E mL_law 98 [l0, l1, l2, l3, l4, l5, l6, l7, l8, l9, some (.int x), l11, l12, l13, l14] st S V Q := xi_st1 (j := 9) (v := .int x) (show decode cL_law 96 = .ok (.istore 10, 2) by decide +kernel) rfl h rfl rfl
theorem pL_law_98 : xX E mL_law 98 [l0, some (.ref a), l2, l3, l4, l5, l6, l7, l8, l9, l10, l11, l12, l13, l14] st S V Q ↔ xX E mL_law 99 [l0, some (.ref a), l2, l3, l4, l5, l6, l7, l8, l9, l10, l11, l12, l13, l14] (.ref a :: st) S V Q := xi (show decode cL_law 98 = .ok (.aload_n 1, 1) by decide +kernel) rfl
theorem pL_law_99 {a1 : Nat} (hc : xcat st ≤ 8) : xX E mL_law 99 [l0, l1, l2, l3, l4, l5, l6, l7, l8, l9, l10, l11, l12, l13, l14] (.ref a1 :: st) S V Q ↔ xC E mL_digest [.ref a1] S V (fun v S V => xX E mL_law 102 [l0, l1, l2, l3, l4, l5, l6, l7, l8, l9, l10, l11, l12, l13, l14] (v.toList ++ st) S V Q) := xi_callS (as := [.ref a1]) (show decode cL_law 99 = .ok (.invokestatic 57, 3) by decide +kernel) xct_6_57 (by decide) rfl rfl (by decide) (Nat.le_of_ble_eq_true rfl) hc
theorem pL_law_102 (h : xnl l10 = true) : xX E mL_law 102 [l0, l1, l2, l3, l4, l5, l6, l7, l8, l9, l10, l11, l12, l13, l14] (.long u :: st) S V Q ↔ xX E mL_law 104 [l0, l1, l2, l3, l4, l5, l6, l7, l8, l9, l10, some (.long u), none, l13, l14] st S V Q := xi_st2 (j := 10) (v := .long u) (show decode cL_law 102 = .ok (.lstore 11, 2) by decide +kernel) rfl h rfl rfl
theorem pL_law_104 : xX E mL_law 104 [l0, l1, l2, l3, l4, l5, l6, l7, l8, l9, some (.int x), l11, l12, l13, l14] st S V Q ↔ xX E mL_law 106 [l0, l1, l2, l3, l4, l5, l6, l7, l8, l9, some (.int x), l11, l12, l13, l14] (.int x :: st) S V Q := xi (show decode cL_law 104 = .ok (.iload 10, 2) by decide +kernel) rfl
theorem pL_law_106 : xX E mL_law 106 [l0, l1, l2, l3, l4, l5, l6, l7, l8, l9, l10, l11, l12, l13, l14] (.int x :: st) S V Q ↔ if nI 0 ≤ x then xX E mL_law 120 [l0, l1, l2, l3, l4, l5, l6, l7, l8, l9, l10, l11, l12, l13, l14] st S V Q else xX E mL_law 109 [l0, l1, l2, l3, l4, l5, l6, l7, l8, l9, l10, l11, l12, l13, l14] st S V Q := xi_if (show decode cL_law 106 = .ok (.ifCond .ge 14, 3) by decide +kernel) (by decide) xcb_ge
theorem pL_law_109 : xX E mL_law 109 [l0, l1, l2, l3, l4, l5, l6, l7, l8, l9, some (.int x), l11, l12, l13, l14] st S V Q ↔ xX E mL_law 111 [l0, l1, l2, l3, l4, l5, l6, l7, l8, l9, some (.int x), l11, l12, l13, l14] (.int x :: st) S V Q := xi (show decode cL_law 109 = .ok (.iload 10, 2) by decide +kernel) rfl
theorem pL_law_111 : xX E mL_law 111 [l0, l1, l2, l3, l4, l5, l6, l7, l8, l9, l10, l11, l12, l13, l14] st S V Q ↔ xX E mL_law 113 [l0, l1, l2, l3, l4, l5, l6, l7, l8, l9, l10, l11, l12, l13, l14] (.int (-6) :: st) S V Q := xi (show decode cL_law 111 = .ok (.bipush (-6), 2) by decide +kernel) rfl
theorem pL_law_113 : xX E mL_law 113 [l0, l1, l2, l3, l4, l5, l6, l7, l8, l9, l10, l11, l12, l13, l14] (.int y :: .int x :: st) S V Q ↔ if x = y then xX E mL_law 120 [l0, l1, l2, l3, l4, l5, l6, l7, l8, l9, l10, l11, l12, l13, l14] st S V Q else xX E mL_law 116 [l0, l1, l2, l3, l4, l5, l6, l7, l8, l9, l10, l11, l12, l13, l14] st S V Q := xi_icmp (show decode cL_law 113 = .ok (.if_icmp .eq 7, 3) by decide +kernel) (by decide) xcb_eq
theorem pL_law_116 : xX E mL_law 116 [l0, l1, l2, l3, l4, l5, l6, l7, l8, l9, l10, l11, l12, l13, l14] st S V Q ↔ xX E mL_law 117 [l0, l1, l2, l3, l4, l5, l6, l7, l8, l9, l10, l11, l12, l13, l14] (.int (nI 1) :: st) S V Q := xi (show decode cL_law 116 = .ok (.iconst 1, 1) by decide +kernel) rfl
theorem pL_law_117 : xX E mL_law 117 [l0, l1, l2, l3, l4, l5, l6, l7, l8, l9, l10, l11, l12, l13, l14] st S V Q ↔ xX E mL_law 121 [l0, l1, l2, l3, l4, l5, l6, l7, l8, l9, l10, l11, l12, l13, l14] st S V Q := xi_goto (show decode cL_law 117 = .ok (.goto 4, 3) by decide +kernel) (by decide)
theorem pL_law_120 : xX E mL_law 120 [l0, l1, l2, l3, l4, l5, l6, l7, l8, l9, l10, l11, l12, l13, l14] st S V Q ↔ xX E mL_law 121 [l0, l1, l2, l3, l4, l5, l6, l7, l8, l9, l10, l11, l12, l13, l14] (.int (nI 0) :: st) S V Q := xi (show decode cL_law 120 = .ok (.iconst 0, 1) by decide +kernel) rfl
theorem pL_law_121 (h : xnl l12 = true) : xX E mL_law 121 [l0, l1, l2, l3, l4, l5, l6, l7, l8, l9, l10, l11, l12, l13, l14] (.int x :: st) S V Q ↔ xX E mL_law 123 [l0, l1, l2, l3, l4, l5, l6, l7, l8, l9, l10, l11, l12, some (.int x), l14] st S V Q := xi_st1 (j := 12) (v := .int x) (show decode cL_law 121 = .ok (.istore 13, 2) by decide +kernel) rfl h rfl rfl
theorem pL_law_123 : xX E mL_law 123 [l0, l1, l2, l3, l4, l5, l6, l7, l8, l9, l10, l11, l12, some (.int x), l14] st S V Q ↔ xX E mL_law 125 [l0, l1, l2, l3, l4, l5, l6, l7, l8, l9, l10, l11, l12, some (.int x), l14] (.int x :: st) S V Q := xi (show decode cL_law 123 = .ok (.iload 13, 2) by decide +kernel) rfl
theorem pL_law_125 : xX E mL_law 125 [l0, l1, l2, l3, l4, l5, l6, l7, l8, l9, l10, l11, l12, l13, l14] (.int x :: st) S V Q ↔ if x = nI 0 then xX E mL_law 150 [l0, l1, l2, l3, l4, l5, l6, l7, l8, l9, l10, l11, l12, l13, l14] st S V Q else xX E mL_law 128 [l0, l1, l2, l3, l4, l5, l6, l7, l8, l9, l10, l11, l12, l13, l14] st S V Q := xi_if (show decode cL_law 125 = .ok (.ifCond .eq 25, 3) by decide +kernel) (by decide) xcb_eq
theorem pL_law_128 : xX E mL_law 128 [l0, l1, l2, l3, l4, l5, l6, l7, l8, l9, l10, some (.long u), l12, l13, l14] st S V Q ↔ xX E mL_law 130 [l0, l1, l2, l3, l4, l5, l6, l7, l8, l9, l10, some (.long u), l12, l13, l14] (.long u :: st) S V Q := xi (show decode cL_law 128 = .ok (.lload 11, 2) by decide +kernel) rfl
theorem pL_law_130 : xX E mL_law 130 [l0, l1, l2, l3, l4, l5, l6, some (.long u), l8, l9, l10, l11, l12, l13, l14] st S V Q ↔ xX E mL_law 132 [l0, l1, l2, l3, l4, l5, l6, some (.long u), l8, l9, l10, l11, l12, l13, l14] (.long u :: st) S V Q := xi (show decode cL_law 130 = .ok (.lload 7, 2) by decide +kernel) rfl
theorem pL_law_132 : xX E mL_law 132 [l0, l1, l2, l3, l4, l5, l6, l7, l8, l9, l10, l11, l12, l13, l14] (.long w :: .long u :: st) S V Q ↔ xX E mL_law 133 [l0, l1, l2, l3, l4, l5, l6, l7, l8, l9, l10, l11, l12, l13, l14] (.int (lg_cmp u w) :: st) S V Q := xi (show decode cL_law 132 = .ok (.lcmp, 1) by decide +kernel) rfl
theorem pL_law_133 : xX E mL_law 133 [l0, l1, l2, l3, l4, l5, l6, l7, l8, l9, l10, l11, l12, l13, l14] (.int x :: st) S V Q ↔ if ¬ x = nI 0 then xX E mL_law 175 [l0, l1, l2, l3, l4, l5, l6, l7, l8, l9, l10, l11, l12, l13, l14] st S V Q else xX E mL_law 136 [l0, l1, l2, l3, l4, l5, l6, l7, l8, l9, l10, l11, l12, l13, l14] st S V Q := xi_if (show decode cL_law 133 = .ok (.ifCond .ne 42, 3) by decide +kernel) (by decide) xcb_ne
theorem pL_law_136 : xX E mL_law 136 [l0, some (.ref a), l2, l3, l4, l5, l6, l7, l8, l9, l10, l11, l12, l13, l14] st S V Q ↔ xX E mL_law 137 [l0, some (.ref a), l2, l3, l4, l5, l6, l7, l8, l9, l10, l11, l12, l13, l14] (.ref a :: st) S V Q := xi (show decode cL_law 136 = .ok (.aload_n 1, 1) by decide +kernel) rfl
theorem pL_law_137 : xX E mL_law 137 [l0, l1, l2, l3, l4, l5, l6, l7, l8, l9, l10, l11, l12, l13, l14] st S V Q ↔ xX E mL_law 139 [l0, l1, l2, l3, l4, l5, l6, l7, l8, l9, l10, l11, l12, l13, l14] (.int (nI 9) :: st) S V Q := xi (show decode cL_law 137 = .ok (.bipush 9, 2) by decide +kernel) rfl
theorem pL_law_139 {x0 : Int32} (h : xkd S a = 5) (hc : xcat st ≤ 8) : xX E mL_law 139 [l0, l1, l2, l3, l4, l5, l6, l7, l8, l9, l10, l11, l12, l13, l14] (.int x0 :: .ref a :: st) S V Q ↔ xC E mX4_count [.ref a, .int x0] S V (fun v S V => xX E mL_law 142 [l0, l1, l2, l3, l4, l5, l6, l7, l8, l9, l10, l11, l12, l13, l14] (v.toList ++ st) S V Q) := xi_callV (as := [.int x0]) (show decode cL_law 139 = .ok (.invokevirtual 12, 3) by decide +kernel) xct_6_12 rfl rfl (by decide) (Nat.le_of_ble_eq_true rfl) rfl h hc
theorem pL_law_142 : xX E mL_law 142 [l0, l1, l2, l3, l4, l5, l6, l7, l8, some (.int x), l10, l11, l12, l13, l14] st S V Q ↔ xX E mL_law 144 [l0, l1, l2, l3, l4, l5, l6, l7, l8, some (.int x), l10, l11, l12, l13, l14] (.int x :: st) S V Q := xi (show decode cL_law 142 = .ok (.iload 9, 2) by decide +kernel) rfl
theorem pL_law_144 : xX E mL_law 144 [l0, l1, l2, l3, l4, l5, l6, l7, l8, l9, l10, l11, l12, l13, l14] (.int y :: .int x :: st) S V Q ↔ if x = y then xX E mL_law 177 [l0, l1, l2, l3, l4, l5, l6, l7, l8, l9, l10, l11, l12, l13, l14] st S V Q else xX E mL_law 147 [l0, l1, l2, l3, l4, l5, l6, l7, l8, l9, l10, l11, l12, l13, l14] st S V Q := xi_icmp (show decode cL_law 144 = .ok (.if_icmp .eq 33, 3) by decide +kernel) (by decide) xcb_eq
theorem pL_law_147 : xX E mL_law 147 [l0, l1, l2, l3, l4, l5, l6, l7, l8, l9, l10, l11, l12, l13, l14] st S V Q ↔ xX E mL_law 175 [l0, l1, l2, l3, l4, l5, l6, l7, l8, l9, l10, l11, l12, l13, l14] st S V Q := xi_goto (show decode cL_law 147 = .ok (.goto 28, 3) by decide +kernel) (by decide)
theorem pL_law_150 : xX E mL_law 150 [l0, some (.ref a), l2, l3, l4, l5, l6, l7, l8, l9, l10, l11, l12, l13, l14] st S V Q ↔ xX E mL_law 151 [l0, some (.ref a), l2, l3, l4, l5, l6, l7, l8, l9, l10, l11, l12, l13, l14] (.ref a :: st) S V Q := xi (show decode cL_law 150 = .ok (.aload_n 1, 1) by decide +kernel) rfl
theorem pL_law_151 : xX E mL_law 151 [l0, l1, l2, l3, l4, l5, l6, l7, l8, l9, l10, l11, l12, l13, l14] st S V Q ↔ xX E mL_law 153 [l0, l1, l2, l3, l4, l5, l6, l7, l8, l9, l10, l11, l12, l13, l14] (.int (nI 9) :: st) S V Q := xi (show decode cL_law 151 = .ok (.bipush 9, 2) by decide +kernel) rfl
theorem pL_law_153 {x0 : Int32} (h : xkd S a = 5) (hc : xcat st ≤ 8) : xX E mL_law 153 [l0, l1, l2, l3, l4, l5, l6, l7, l8, l9, l10, l11, l12, l13, l14] (.int x0 :: .ref a :: st) S V Q ↔ xC E mX4_count [.ref a, .int x0] S V (fun v S V => xX E mL_law 156 [l0, l1, l2, l3, l4, l5, l6, l7, l8, l9, l10, l11, l12, l13, l14] (v.toList ++ st) S V Q) := xi_callV (as := [.int x0]) (show decode cL_law 153 = .ok (.invokevirtual 12, 3) by decide +kernel) xct_6_12 rfl rfl (by decide) (Nat.le_of_ble_eq_true rfl) rfl h hc
theorem pL_law_156 : xX E mL_law 156 [l0, l1, l2, l3, l4, l5, l6, l7, l8, some (.int x), l10, l11, l12, l13, l14] st S V Q ↔ xX E mL_law 158 [l0, l1, l2, l3, l4, l5, l6, l7, l8, some (.int x), l10, l11, l12, l13, l14] (.int x :: st) S V Q := xi (show decode cL_law 156 = .ok (.iload 9, 2) by decide +kernel) rfl
theorem pL_law_158 : xX E mL_law 158 [l0, l1, l2, l3, l4, l5, l6, l7, l8, l9, l10, l11, l12, l13, l14] st S V Q ↔ xX E mL_law 160 [l0, l1, l2, l3, l4, l5, l6, l7, l8, l9, l10, l11, l12, l13, l14] (.int (nI 6) :: st) S V Q := xi (show decode cL_law 158 = .ok (.bipush 6, 2) by decide +kernel) rfl
theorem pL_law_160 : xX E mL_law 160 [l0, l1, l2, l3, l4, l5, l6, l7, l8, l9, l10, l11, l12, l13, l14] (.int y :: .int x :: st) S V Q ↔ if y ≤ x then xX E mL_law 170 [l0, l1, l2, l3, l4, l5, l6, l7, l8, l9, l10, l11, l12, l13, l14] st S V Q else xX E mL_law 163 [l0, l1, l2, l3, l4, l5, l6, l7, l8, l9, l10, l11, l12, l13, l14] st S V Q := xi_icmp (show decode cL_law 160 = .ok (.if_icmp .ge 10, 3) by decide +kernel) (by decide) xcb_ge
theorem pL_law_163 : xX E mL_law 163 [l0, l1, l2, l3, l4, l5, l6, l7, l8, some (.int x), l10, l11, l12, l13, l14] st S V Q ↔ xX E mL_law 165 [l0, l1, l2, l3, l4, l5, l6, l7, l8, some (.int x), l10, l11, l12, l13, l14] (.int x :: st) S V Q := xi (show decode cL_law 163 = .ok (.iload 9, 2) by decide +kernel) rfl
theorem pL_law_165 : xX E mL_law 165 [l0, l1, l2, l3, l4, l5, l6, l7, l8, l9, l10, l11, l12, l13, l14] st S V Q ↔ xX E mL_law 166 [l0, l1, l2, l3, l4, l5, l6, l7, l8, l9, l10, l11, l12, l13, l14] (.int (nI 1) :: st) S V Q := xi (show decode cL_law 165 = .ok (.iconst 1, 1) by decide +kernel) rfl
theorem pL_law_166 : xX E mL_law 166 [l0, l1, l2, l3, l4, l5, l6, l7, l8, l9, l10, l11, l12, l13, l14] (.int y :: .int x :: st) S V Q ↔ xX E mL_law 167 [l0, l1, l2, l3, l4, l5, l6, l7, l8, l9, l10, l11, l12, l13, l14] (.int (x + y) :: st) S V Q := xi (show decode cL_law 166 = .ok (.iadd, 1) by decide +kernel) rfl
theorem pL_law_167 : xX E mL_law 167 [l0, l1, l2, l3, l4, l5, l6, l7, l8, l9, l10, l11, l12, l13, l14] st S V Q ↔ xX E mL_law 172 [l0, l1, l2, l3, l4, l5, l6, l7, l8, l9, l10, l11, l12, l13, l14] st S V Q := xi_goto (show decode cL_law 167 = .ok (.goto 5, 3) by decide +kernel) (by decide)
theorem pL_law_170 : xX E mL_law 170 [l0, l1, l2, l3, l4, l5, l6, l7, l8, l9, l10, l11, l12, l13, l14] st S V Q ↔ xX E mL_law 172 [l0, l1, l2, l3, l4, l5, l6, l7, l8, l9, l10, l11, l12, l13, l14] (.int (nI 6) :: st) S V Q := xi (show decode cL_law 170 = .ok (.bipush 6, 2) by decide +kernel) rfl
theorem pL_law_172 : xX E mL_law 172 [l0, l1, l2, l3, l4, l5, l6, l7, l8, l9, l10, l11, l12, l13, l14] (.int y :: .int x :: st) S V Q ↔ if x = y then xX E mL_law 177 [l0, l1, l2, l3, l4, l5, l6, l7, l8, l9, l10, l11, l12, l13, l14] st S V Q else xX E mL_law 175 [l0, l1, l2, l3, l4, l5, l6, l7, l8, l9, l10, l11, l12, l13, l14] st S V Q := xi_icmp (show decode cL_law 172 = .ok (.if_icmp .eq 5, 3) by decide +kernel) (by decide) xcb_eq
theorem pL_law_175 : xX E mL_law 175 [l0, l1, l2, l3, l4, l5, l6, l7, l8, l9, l10, l11, l12, l13, l14] st S V Q ↔ xX E mL_law 176 [l0, l1, l2, l3, l4, l5, l6, l7, l8, l9, l10, l11, l12, l13, l14] (.int (nI 0) :: st) S V Q := xi (show decode cL_law 175 = .ok (.iconst 0, 1) by decide +kernel) rfl
theorem pL_law_176 (h : b < 2) : xX E mL_law 176 [l0, l1, l2, l3, l4, l5, l6, l7, l8, l9, l10, l11, l12, l13, l14] [.int (nI b)] S V Q ↔ Q (some (.int (nI b))) S V := xi_retZ (show decode cL_law 176 = .ok (.ireturn, 1) by decide +kernel) rfl h
theorem pL_law_177 : xX E mL_law 177 [l0, l1, l2, l3, l4, l5, l6, l7, l8, l9, l10, l11, l12, some (.int x), l14] st S V Q ↔ xX E mL_law 179 [l0, l1, l2, l3, l4, l5, l6, l7, l8, l9, l10, l11, l12, some (.int x), l14] (.int x :: st) S V Q := xi (show decode cL_law 177 = .ok (.iload 13, 2) by decide +kernel) rfl
theorem pL_law_179 : xX E mL_law 179 [l0, l1, l2, l3, l4, l5, l6, l7, l8, l9, l10, l11, l12, l13, l14] (.int x :: st) S V Q ↔ if ¬ x = nI 0 then xX E mL_law 247 [l0, l1, l2, l3, l4, l5, l6, l7, l8, l9, l10, l11, l12, l13, l14] st S V Q else xX E mL_law 182 [l0, l1, l2, l3, l4, l5, l6, l7, l8, l9, l10, l11, l12, l13, l14] st S V Q := xi_if (show decode cL_law 179 = .ok (.ifCond .ne 68, 3) by decide +kernel) (by decide) xcb_ne
theorem pL_law_182 : xX E mL_law 182 [l0, l1, l2, l3, l4, some (.int x), l6, l7, l8, l9, l10, l11, l12, l13, l14] st S V Q ↔ xX E mL_law 184 [l0, l1, l2, l3, l4, some (.int x), l6, l7, l8, l9, l10, l11, l12, l13, l14] (.int x :: st) S V Q := xi (show decode cL_law 182 = .ok (.iload 5, 2) by decide +kernel) rfl
theorem pL_law_184 : xX E mL_law 184 [l0, l1, l2, l3, l4, l5, l6, l7, l8, l9, l10, l11, l12, l13, l14] st S V Q ↔ xX E mL_law 186 [l0, l1, l2, l3, l4, l5, l6, l7, l8, l9, l10, l11, l12, l13, l14] (.int (nI 8) :: st) S V Q := xi (show decode cL_law 184 = .ok (.bipush 8, 2) by decide +kernel) rfl
theorem pL_law_186 : xX E mL_law 186 [l0, l1, l2, l3, l4, l5, l6, l7, l8, l9, l10, l11, l12, l13, l14] (.int y :: .int x :: st) S V Q ↔ xX E mL_law 187 [l0, l1, l2, l3, l4, l5, l6, l7, l8, l9, l10, l11, l12, l13, l14] (.int (x >>> (y &&& 31)) :: st) S V Q := xi (show decode cL_law 186 = .ok (.ishr, 1) by decide +kernel) rfl
theorem pL_law_187 : xX E mL_law 187 [l0, l1, l2, l3, l4, l5, l6, l7, l8, l9, l10, l11, l12, l13, l14] st S V Q ↔ xX E mL_law 188 [l0, l1, l2, l3, l4, l5, l6, l7, l8, l9, l10, l11, l12, l13, l14] (.int (nI 1) :: st) S V Q := xi (show decode cL_law 187 = .ok (.iconst 1, 1) by decide +kernel) rfl
theorem pL_law_188 : xX E mL_law 188 [l0, l1, l2, l3, l4, l5, l6, l7, l8, l9, l10, l11, l12, l13, l14] (.int y :: .int x :: st) S V Q ↔ xX E mL_law 189 [l0, l1, l2, l3, l4, l5, l6, l7, l8, l9, l10, l11, l12, l13, l14] (.int (x &&& y) :: st) S V Q := xi (show decode cL_law 188 = .ok (.iand, 1) by decide +kernel) rfl
theorem pL_law_189 : xX E mL_law 189 [l0, l1, l2, l3, l4, l5, l6, l7, l8, l9, l10, l11, l12, l13, l14] st S V Q ↔ xX E mL_law 190 [l0, l1, l2, l3, l4, l5, l6, l7, l8, l9, l10, l11, l12, l13, l14] (.int (nI 1) :: st) S V Q := xi (show decode cL_law 189 = .ok (.iconst 1, 1) by decide +kernel) rfl
theorem pL_law_190 : xX E mL_law 190 [l0, l1, l2, l3, l4, l5, l6, l7, l8, l9, l10, l11, l12, l13, l14] (.int y :: .int x :: st) S V Q ↔ if ¬ x = y then xX E mL_law 247 [l0, l1, l2, l3, l4, l5, l6, l7, l8, l9, l10, l11, l12, l13, l14] st S V Q else xX E mL_law 193 [l0, l1, l2, l3, l4, l5, l6, l7, l8, l9, l10, l11, l12, l13, l14] st S V Q := xi_icmp (show decode cL_law 190 = .ok (.if_icmp .ne 57, 3) by decide +kernel) (by decide) xcb_ne
theorem pL_law_193 : xX E mL_law 193 [l0, some (.ref a), l2, l3, l4, l5, l6, l7, l8, l9, l10, l11, l12, l13, l14] st S V Q ↔ xX E mL_law 194 [l0, some (.ref a), l2, l3, l4, l5, l6, l7, l8, l9, l10, l11, l12, l13, l14] (.ref a :: st) S V Q := xi (show decode cL_law 193 = .ok (.aload_n 1, 1) by decide +kernel) rfl
theorem pL_law_194 : xX E mL_law 194 [l0, l1, l2, l3, l4, l5, l6, l7, l8, l9, l10, l11, l12, l13, l14] st S V Q ↔ xX E mL_law 196 [l0, l1, l2, l3, l4, l5, l6, l7, l8, l9, l10, l11, l12, l13, l14] (.int (nI 9) :: st) S V Q := xi (show decode cL_law 194 = .ok (.bipush 9, 2) by decide +kernel) rfl
theorem pL_law_196 {x0 : Int32} (h : xkd S a = 5) (hc : xcat st ≤ 8) : xX E mL_law 196 [l0, l1, l2, l3, l4, l5, l6, l7, l8, l9, l10, l11, l12, l13, l14] (.int x0 :: .ref a :: st) S V Q ↔ xC E mX4_count [.ref a, .int x0] S V (fun v S V => xX E mL_law 199 [l0, l1, l2, l3, l4, l5, l6, l7, l8, l9, l10, l11, l12, l13, l14] (v.toList ++ st) S V Q) := xi_callV (as := [.int x0]) (show decode cL_law 196 = .ok (.invokevirtual 12, 3) by decide +kernel) xct_6_12 rfl rfl (by decide) (Nat.le_of_ble_eq_true rfl) rfl h hc
theorem pL_law_199 : xX E mL_law 199 [l0, l1, l2, l3, l4, l5, l6, l7, l8, l9, l10, l11, l12, l13, l14] st S V Q ↔ xX E mL_law 200 [l0, l1, l2, l3, l4, l5, l6, l7, l8, l9, l10, l11, l12, l13, l14] (.int (nI 1) :: st) S V Q := xi (show decode cL_law 199 = .ok (.iconst 1, 1) by decide +kernel) rfl
theorem pL_law_200 : xX E mL_law 200 [l0, l1, l2, l3, l4, l5, l6, l7, l8, l9, l10, l11, l12, l13, l14] (.int y :: .int x :: st) S V Q ↔ xX E mL_law 201 [l0, l1, l2, l3, l4, l5, l6, l7, l8, l9, l10, l11, l12, l13, l14] (.int (x - y) :: st) S V Q := xi (show decode cL_law 200 = .ok (.isub, 1) by decide +kernel) rfl
theorem pL_law_201 (h : xnl l13 = true) : xX E mL_law 201 [l0, l1, l2, l3, l4, l5, l6, l7, l8, l9, l10, l11, l12, l13, l14] (.int x :: st) S V Q ↔ xX E mL_law 203 [l0, l1, l2, l3, l4, l5, l6, l7, l8, l9, l10, l11, l12, l13, some (.int x)] st S V Q := xi_st1 (j := 13) (v := .int x) (show decode cL_law 201 = .ok (.istore 14, 2) by decide +kernel) rfl h rfl rfl
theorem pL_law_203 : xX E mL_law 203 [l0, some (.ref a), l2, l3, l4, l5, l6, l7, l8, l9, l10, l11, l12, l13, l14] st S V Q ↔ xX E mL_law 204 [l0, some (.ref a), l2, l3, l4, l5, l6, l7, l8, l9, l10, l11, l12, l13, l14] (.ref a :: st) S V Q := xi (show decode cL_law 203 = .ok (.aload_n 1, 1) by decide +kernel) rfl
theorem pL_law_204  (h : xkd S a = 5) (hc : xcat st ≤ 8) : xX E mL_law 204 [l0, l1, l2, l3, l4, l5, l6, l7, l8, l9, l10, l11, l12, l13, l14] (.ref a :: st) S V Q ↔ xC E mX4_undo [.ref a] S V (fun v S V => xX E mL_law 207 [l0, l1, l2, l3, l4, l5, l6, l7, l8, l9, l10, l11, l12, l13, l14] (v.toList ++ st) S V Q) := xi_callV (as := []) (show decode cL_law 204 = .ok (.invokevirtual 64, 3) by decide +kernel) xct_6_64 rfl rfl (by decide) (Nat.le_of_ble_eq_true rfl) rfl h hc
theorem pL_law_207 : xX E mL_law 207 [l0, l1, l2, l3, l4, l5, l6, l7, l8, l9, l10, l11, l12, l13, some (.int x)] st S V Q ↔ xX E mL_law 209 [l0, l1, l2, l3, l4, l5, l6, l7, l8, l9, l10, l11, l12, l13, some (.int x)] (.int x :: st) S V Q := xi (show decode cL_law 207 = .ok (.iload 14, 2) by decide +kernel) rfl
theorem pL_law_209 : xX E mL_law 209 [l0, l1, l2, l3, l4, l5, l6, l7, l8, l9, l10, l11, l12, l13, l14] (.int y :: .int x :: st) S V Q ↔ if ¬ x = y then xX E mL_law 245 [l0, l1, l2, l3, l4, l5, l6, l7, l8, l9, l10, l11, l12, l13, l14] st S V Q else xX E mL_law 212 [l0, l1, l2, l3, l4, l5, l6, l7, l8, l9, l10, l11, l12, l13, l14] st S V Q := xi_icmp (show decode cL_law 209 = .ok (.if_icmp .ne 36, 3) by decide +kernel) (by decide) xcb_ne
theorem pL_law_212 : xX E mL_law 212 [l0, some (.ref a), l2, l3, l4, l5, l6, l7, l8, l9, l10, l11, l12, l13, l14] st S V Q ↔ xX E mL_law 213 [l0, some (.ref a), l2, l3, l4, l5, l6, l7, l8, l9, l10, l11, l12, l13, l14] (.ref a :: st) S V Q := xi (show decode cL_law 212 = .ok (.aload_n 1, 1) by decide +kernel) rfl
theorem pL_law_213 {a1 : Nat} (hc : xcat st ≤ 8) : xX E mL_law 213 [l0, l1, l2, l3, l4, l5, l6, l7, l8, l9, l10, l11, l12, l13, l14] (.ref a1 :: st) S V Q ↔ xC E mL_digest [.ref a1] S V (fun v S V => xX E mL_law 216 [l0, l1, l2, l3, l4, l5, l6, l7, l8, l9, l10, l11, l12, l13, l14] (v.toList ++ st) S V Q) := xi_callS (as := [.ref a1]) (show decode cL_law 213 = .ok (.invokestatic 57, 3) by decide +kernel) xct_6_57 (by decide) rfl rfl (by decide) (Nat.le_of_ble_eq_true rfl) hc
theorem pL_law_216 : xX E mL_law 216 [l0, l1, l2, l3, l4, l5, l6, some (.long u), l8, l9, l10, l11, l12, l13, l14] st S V Q ↔ xX E mL_law 218 [l0, l1, l2, l3, l4, l5, l6, some (.long u), l8, l9, l10, l11, l12, l13, l14] (.long u :: st) S V Q := xi (show decode cL_law 216 = .ok (.lload 7, 2) by decide +kernel) rfl
theorem pL_law_218 : xX E mL_law 218 [l0, l1, l2, l3, l4, l5, l6, l7, l8, l9, l10, l11, l12, l13, l14] (.long w :: .long u :: st) S V Q ↔ xX E mL_law 219 [l0, l1, l2, l3, l4, l5, l6, l7, l8, l9, l10, l11, l12, l13, l14] (.int (lg_cmp u w) :: st) S V Q := xi (show decode cL_law 218 = .ok (.lcmp, 1) by decide +kernel) rfl
theorem pL_law_219 : xX E mL_law 219 [l0, l1, l2, l3, l4, l5, l6, l7, l8, l9, l10, l11, l12, l13, l14] (.int x :: st) S V Q ↔ if ¬ x = nI 0 then xX E mL_law 245 [l0, l1, l2, l3, l4, l5, l6, l7, l8, l9, l10, l11, l12, l13, l14] st S V Q else xX E mL_law 222 [l0, l1, l2, l3, l4, l5, l6, l7, l8, l9, l10, l11, l12, l13, l14] st S V Q := xi_if (show decode cL_law 219 = .ok (.ifCond .ne 26, 3) by decide +kernel) (by decide) xcb_ne
theorem pL_law_222 : xX E mL_law 222 [l0, some (.ref a), l2, l3, l4, l5, l6, l7, l8, l9, l10, l11, l12, l13, l14] st S V Q ↔ xX E mL_law 223 [l0, some (.ref a), l2, l3, l4, l5, l6, l7, l8, l9, l10, l11, l12, l13, l14] (.ref a :: st) S V Q := xi (show decode cL_law 222 = .ok (.aload_n 1, 1) by decide +kernel) rfl
theorem pL_law_223 : xX E mL_law 223 [l0, l1, l2, l3, l4, some (.int x), l6, l7, l8, l9, l10, l11, l12, l13, l14] st S V Q ↔ xX E mL_law 225 [l0, l1, l2, l3, l4, some (.int x), l6, l7, l8, l9, l10, l11, l12, l13, l14] (.int x :: st) S V Q := xi (show decode cL_law 223 = .ok (.iload 5, 2) by decide +kernel) rfl
theorem pL_law_225 : xX E mL_law 225 [l0, l1, l2, l3, l4, l5, some (.int x), l7, l8, l9, l10, l11, l12, l13, l14] st S V Q ↔ xX E mL_law 227 [l0, l1, l2, l3, l4, l5, some (.int x), l7, l8, l9, l10, l11, l12, l13, l14] (.int x :: st) S V Q := xi (show decode cL_law 225 = .ok (.iload 6, 2) by decide +kernel) rfl
theorem pL_law_227 {a1 : Nat} {x0 : Int32} {x1 : Int32} (hc : xcat st ≤ 8) : xX E mL_law 227 [l0, l1, l2, l3, l4, l5, l6, l7, l8, l9, l10, l11, l12, l13, l14] (.int x1 :: .int x0 :: .ref a1 :: st) S V Q ↔ xC E mL_act [.ref a1, .int x0, .int x1] S V (fun v S V => xX E mL_law 230 [l0, l1, l2, l3, l4, l5, l6, l7, l8, l9, l10, l11, l12, l13, l14] (v.toList ++ st) S V Q) := xi_callS (as := [.ref a1, .int x0, .int x1]) (show decode cL_law 227 = .ok (.invokestatic 74, 3) by decide +kernel) xct_6_74 (by decide) rfl rfl (by decide) (Nat.le_of_ble_eq_true rfl) hc
theorem pL_law_230 : xX E mL_law 230 [l0, l1, l2, l3, l4, l5, l6, l7, l8, l9, some (.int x), l11, l12, l13, l14] st S V Q ↔ xX E mL_law 232 [l0, l1, l2, l3, l4, l5, l6, l7, l8, l9, some (.int x), l11, l12, l13, l14] (.int x :: st) S V Q := xi (show decode cL_law 230 = .ok (.iload 10, 2) by decide +kernel) rfl
theorem pL_law_232 : xX E mL_law 232 [l0, l1, l2, l3, l4, l5, l6, l7, l8, l9, l10, l11, l12, l13, l14] (.int y :: .int x :: st) S V Q ↔ if ¬ x = y then xX E mL_law 245 [l0, l1, l2, l3, l4, l5, l6, l7, l8, l9, l10, l11, l12, l13, l14] st S V Q else xX E mL_law 235 [l0, l1, l2, l3, l4, l5, l6, l7, l8, l9, l10, l11, l12, l13, l14] st S V Q := xi_icmp (show decode cL_law 232 = .ok (.if_icmp .ne 13, 3) by decide +kernel) (by decide) xcb_ne
theorem pL_law_235 : xX E mL_law 235 [l0, some (.ref a), l2, l3, l4, l5, l6, l7, l8, l9, l10, l11, l12, l13, l14] st S V Q ↔ xX E mL_law 236 [l0, some (.ref a), l2, l3, l4, l5, l6, l7, l8, l9, l10, l11, l12, l13, l14] (.ref a :: st) S V Q := xi (show decode cL_law 235 = .ok (.aload_n 1, 1) by decide +kernel) rfl
theorem pL_law_236 {a1 : Nat} (hc : xcat st ≤ 8) : xX E mL_law 236 [l0, l1, l2, l3, l4, l5, l6, l7, l8, l9, l10, l11, l12, l13, l14] (.ref a1 :: st) S V Q ↔ xC E mL_digest [.ref a1] S V (fun v S V => xX E mL_law 239 [l0, l1, l2, l3, l4, l5, l6, l7, l8, l9, l10, l11, l12, l13, l14] (v.toList ++ st) S V Q) := xi_callS (as := [.ref a1]) (show decode cL_law 236 = .ok (.invokestatic 57, 3) by decide +kernel) xct_6_57 (by decide) rfl rfl (by decide) (Nat.le_of_ble_eq_true rfl) hc
theorem pL_law_239 : xX E mL_law 239 [l0, l1, l2, l3, l4, l5, l6, l7, l8, l9, l10, some (.long u), l12, l13, l14] st S V Q ↔ xX E mL_law 241 [l0, l1, l2, l3, l4, l5, l6, l7, l8, l9, l10, some (.long u), l12, l13, l14] (.long u :: st) S V Q := xi (show decode cL_law 239 = .ok (.lload 11, 2) by decide +kernel) rfl
theorem pL_law_241 : xX E mL_law 241 [l0, l1, l2, l3, l4, l5, l6, l7, l8, l9, l10, l11, l12, l13, l14] (.long w :: .long u :: st) S V Q ↔ xX E mL_law 242 [l0, l1, l2, l3, l4, l5, l6, l7, l8, l9, l10, l11, l12, l13, l14] (.int (lg_cmp u w) :: st) S V Q := xi (show decode cL_law 241 = .ok (.lcmp, 1) by decide +kernel) rfl
theorem pL_law_242 : xX E mL_law 242 [l0, l1, l2, l3, l4, l5, l6, l7, l8, l9, l10, l11, l12, l13, l14] (.int x :: st) S V Q ↔ if x = nI 0 then xX E mL_law 247 [l0, l1, l2, l3, l4, l5, l6, l7, l8, l9, l10, l11, l12, l13, l14] st S V Q else xX E mL_law 245 [l0, l1, l2, l3, l4, l5, l6, l7, l8, l9, l10, l11, l12, l13, l14] st S V Q := xi_if (show decode cL_law 242 = .ok (.ifCond .eq 5, 3) by decide +kernel) (by decide) xcb_eq
theorem pL_law_245 : xX E mL_law 245 [l0, l1, l2, l3, l4, l5, l6, l7, l8, l9, l10, l11, l12, l13, l14] st S V Q ↔ xX E mL_law 246 [l0, l1, l2, l3, l4, l5, l6, l7, l8, l9, l10, l11, l12, l13, l14] (.int (nI 0) :: st) S V Q := xi (show decode cL_law 245 = .ok (.iconst 0, 1) by decide +kernel) rfl
theorem pL_law_246 (h : b < 2) : xX E mL_law 246 [l0, l1, l2, l3, l4, l5, l6, l7, l8, l9, l10, l11, l12, l13, l14] [.int (nI b)] S V Q ↔ Q (some (.int (nI b))) S V := xi_retZ (show decode cL_law 246 = .ok (.ireturn, 1) by decide +kernel) rfl h
theorem pL_law_247 : xX E mL_law 247 [l0, some (.ref a), l2, l3, l4, l5, l6, l7, l8, l9, l10, l11, l12, l13, l14] st S V Q ↔ xX E mL_law 248 [l0, some (.ref a), l2, l3, l4, l5, l6, l7, l8, l9, l10, l11, l12, l13, l14] (.ref a :: st) S V Q := xi (show decode cL_law 247 = .ok (.aload_n 1, 1) by decide +kernel) rfl
theorem pL_law_248 {a1 : Nat} (hc : xcat st ≤ 8) : xX E mL_law 248 [l0, l1, l2, l3, l4, l5, l6, l7, l8, l9, l10, l11, l12, l13, l14] (.ref a1 :: st) S V Q ↔ xC E mL_addsUp [.ref a1] S V (fun v S V => xX E mL_law 251 [l0, l1, l2, l3, l4, l5, l6, l7, l8, l9, l10, l11, l12, l13, l14] (v.toList ++ st) S V Q) := xi_callS (as := [.ref a1]) (show decode cL_law 248 = .ok (.invokestatic 78, 3) by decide +kernel) xct_6_78 (by decide) rfl rfl (by decide) (Nat.le_of_ble_eq_true rfl) hc
theorem pL_law_251 : xX E mL_law 251 [l0, l1, l2, l3, l4, l5, l6, l7, l8, l9, l10, l11, l12, l13, l14] (.int x :: st) S V Q ↔ if x = nI 0 then xX E mL_law 274 [l0, l1, l2, l3, l4, l5, l6, l7, l8, l9, l10, l11, l12, l13, l14] st S V Q else xX E mL_law 254 [l0, l1, l2, l3, l4, l5, l6, l7, l8, l9, l10, l11, l12, l13, l14] st S V Q := xi_if (show decode cL_law 251 = .ok (.ifCond .eq 23, 3) by decide +kernel) (by decide) xcb_eq
theorem pL_law_254 : xX E mL_law 254 [l0, some (.ref a), l2, l3, l4, l5, l6, l7, l8, l9, l10, l11, l12, l13, l14] st S V Q ↔ xX E mL_law 255 [l0, some (.ref a), l2, l3, l4, l5, l6, l7, l8, l9, l10, l11, l12, l13, l14] (.ref a :: st) S V Q := xi (show decode cL_law 254 = .ok (.aload_n 1, 1) by decide +kernel) rfl
theorem pL_law_255  (h : xkd S a = 5) (hc : xcat st ≤ 8) : xX E mL_law 255 [l0, l1, l2, l3, l4, l5, l6, l7, l8, l9, l10, l11, l12, l13, l14] (.ref a :: st) S V Q ↔ xC E mX4_slotsLeft [.ref a] S V (fun v S V => xX E mL_law 258 [l0, l1, l2, l3, l4, l5, l6, l7, l8, l9, l10, l11, l12, l13, l14] (v.toList ++ st) S V Q) := xi_callV (as := []) (show decode cL_law 255 = .ok (.invokevirtual 82, 3) by decide +kernel) xct_6_82 rfl rfl (by decide) (Nat.le_of_ble_eq_true rfl) rfl h hc
theorem pL_law_258 : xX E mL_law 258 [l0, l1, l2, l3, l4, l5, l6, l7, l8, l9, l10, l11, l12, l13, l14] st S V Q ↔ xX E mL_law 261 [l0, l1, l2, l3, l4, l5, l6, l7, l8, l9, l10, l11, l12, l13, l14] (.int (nI 1000) :: st) S V Q := xi (show decode cL_law 258 = .ok (.sipush 1000, 3) by decide +kernel) rfl
theorem pL_law_261 : xX E mL_law 261 [l0, l1, l2, l3, l4, l5, l6, l7, l8, l9, l10, l11, l12, l13, l14] (.int y :: .int x :: st) S V Q ↔ if y < x then xX E mL_law 274 [l0, l1, l2, l3, l4, l5, l6, l7, l8, l9, l10, l11, l12, l13, l14] st S V Q else xX E mL_law 264 [l0, l1, l2, l3, l4, l5, l6, l7, l8, l9, l10, l11, l12, l13, l14] st S V Q := xi_icmp (show decode cL_law 261 = .ok (.if_icmp .gt 13, 3) by decide +kernel) (by decide) xcb_gt
theorem pL_law_264 : xX E mL_law 264 [l0, some (.ref a), l2, l3, l4, l5, l6, l7, l8, l9, l10, l11, l12, l13, l14] st S V Q ↔ xX E mL_law 265 [l0, some (.ref a), l2, l3, l4, l5, l6, l7, l8, l9, l10, l11, l12, l13, l14] (.ref a :: st) S V Q := xi (show decode cL_law 264 = .ok (.aload_n 1, 1) by decide +kernel) rfl
theorem pL_law_265 {a1 : Nat} (hc : xcat st ≤ 8) : xX E mL_law 265 [l0, l1, l2, l3, l4, l5, l6, l7, l8, l9, l10, l11, l12, l13, l14] (.ref a1 :: st) S V Q ↔ xC E mL_digest [.ref a1] S V (fun v S V => xX E mL_law 268 [l0, l1, l2, l3, l4, l5, l6, l7, l8, l9, l10, l11, l12, l13, l14] (v.toList ++ st) S V Q) := xi_callS (as := [.ref a1]) (show decode cL_law 265 = .ok (.invokestatic 57, 3) by decide +kernel) xct_6_57 (by decide) rfl rfl (by decide) (Nat.le_of_ble_eq_true rfl) hc
theorem pL_law_268 : xX E mL_law 268 [l0, l1, l2, l3, l4, l5, l6, l7, l8, l9, l10, some (.long u), l12, l13, l14] st S V Q ↔ xX E mL_law 270 [l0, l1, l2, l3, l4, l5, l6, l7, l8, l9, l10, some (.long u), l12, l13, l14] (.long u :: st) S V Q := xi (show decode cL_law 268 = .ok (.lload 11, 2) by decide +kernel) rfl
theorem pL_law_270 : xX E mL_law 270 [l0, l1, l2, l3, l4, l5, l6, l7, l8, l9, l10, l11, l12, l13, l14] (.long w :: .long u :: st) S V Q ↔ xX E mL_law 271 [l0, l1, l2, l3, l4, l5, l6, l7, l8, l9, l10, l11, l12, l13, l14] (.int (lg_cmp u w) :: st) S V Q := xi (show decode cL_law 270 = .ok (.lcmp, 1) by decide +kernel) rfl
theorem pL_law_271 : xX E mL_law 271 [l0, l1, l2, l3, l4, l5, l6, l7, l8, l9, l10, l11, l12, l13, l14] (.int x :: st) S V Q ↔ if x = nI 0 then xX E mL_law 276 [l0, l1, l2, l3, l4, l5, l6, l7, l8, l9, l10, l11, l12, l13, l14] st S V Q else xX E mL_law 274 [l0, l1, l2, l3, l4, l5, l6, l7, l8, l9, l10, l11, l12, l13, l14] st S V Q := xi_if (show decode cL_law 271 = .ok (.ifCond .eq 5, 3) by decide +kernel) (by decide) xcb_eq
theorem pL_law_274 : xX E mL_law 274 [l0, l1, l2, l3, l4, l5, l6, l7, l8, l9, l10, l11, l12, l13, l14] st S V Q ↔ xX E mL_law 275 [l0, l1, l2, l3, l4, l5, l6, l7, l8, l9, l10, l11, l12, l13, l14] (.int (nI 0) :: st) S V Q := xi (show decode cL_law 274 = .ok (.iconst 0, 1) by decide +kernel) rfl
theorem pL_law_275 (h : b < 2) : xX E mL_law 275 [l0, l1, l2, l3, l4, l5, l6, l7, l8, l9, l10, l11, l12, l13, l14] [.int (nI b)] S V Q ↔ Q (some (.int (nI b))) S V := xi_retZ (show decode cL_law 275 = .ok (.ireturn, 1) by decide +kernel) rfl h
theorem pL_law_276 : xX E mL_law 276 [l0, l1, l2, l3, l4, some (.int x), l6, l7, l8, l9, l10, l11, l12, l13, l14] st S V Q ↔ xX E mL_law 278 [l0, l1, l2, l3, l4, some (.int x), l6, l7, l8, l9, l10, l11, l12, l13, l14] (.int x :: st) S V Q := xi (show decode cL_law 276 = .ok (.iload 5, 2) by decide +kernel) rfl
theorem pL_law_278 : xX E mL_law 278 [l0, l1, l2, l3, l4, l5, l6, l7, l8, l9, l10, l11, l12, l13, l14] st S V Q ↔ xX E mL_law 280 [l0, l1, l2, l3, l4, l5, l6, l7, l8, l9, l10, l11, l12, l13, l14] (.int (nI 9) :: st) S V Q := xi (show decode cL_law 278 = .ok (.bipush 9, 2) by decide +kernel) rfl
theorem pL_law_280 : xX E mL_law 280 [l0, l1, l2, l3, l4, l5, l6, l7, l8, l9, l10, l11, l12, l13, l14] (.int y :: .int x :: st) S V Q ↔ xX E mL_law 281 [l0, l1, l2, l3, l4, l5, l6, l7, l8, l9, l10, l11, l12, l13, l14] (.int (x >>> (y &&& 31)) :: st) S V Q := xi (show decode cL_law 280 = .ok (.ishr, 1) by decide +kernel) rfl
theorem pL_law_281 : xX E mL_law 281 [l0, l1, l2, l3, l4, l5, l6, l7, l8, l9, l10, l11, l12, l13, l14] st S V Q ↔ xX E mL_law 283 [l0, l1, l2, l3, l4, l5, l6, l7, l8, l9, l10, l11, l12, l13, l14] (.int (nI 7) :: st) S V Q := xi (show decode cL_law 281 = .ok (.bipush 7, 2) by decide +kernel) rfl
theorem pL_law_283 : xX E mL_law 283 [l0, l1, l2, l3, l4, l5, l6, l7, l8, l9, l10, l11, l12, l13, l14] (.int y :: .int x :: st) S V Q ↔ xX E mL_law 284 [l0, l1, l2, l3, l4, l5, l6, l7, l8, l9, l10, l11, l12, l13, l14] (.int (x &&& y) :: st) S V Q := xi (show decode cL_law 283 = .ok (.iand, 1) by decide +kernel) rfl
theorem pL_law_284 : xX E mL_law 284 [l0, l1, l2, l3, l4, l5, l6, l7, l8, l9, l10, l11, l12, l13, l14] (.int x :: st) S V Q ↔ if ¬ x = nI 0 then xX E mL_law 296 [l0, l1, l2, l3, l4, l5, l6, l7, l8, l9, l10, l11, l12, l13, l14] st S V Q else xX E mL_law 287 [l0, l1, l2, l3, l4, l5, l6, l7, l8, l9, l10, l11, l12, l13, l14] st S V Q := xi_if (show decode cL_law 284 = .ok (.ifCond .ne 12, 3) by decide +kernel) (by decide) xcb_ne
theorem pL_law_287 : xX E mL_law 287 [l0, some (.ref a), l2, l3, l4, l5, l6, l7, l8, l9, l10, l11, l12, l13, l14] st S V Q ↔ xX E mL_law 288 [l0, some (.ref a), l2, l3, l4, l5, l6, l7, l8, l9, l10, l11, l12, l13, l14] (.ref a :: st) S V Q := xi (show decode cL_law 287 = .ok (.aload_n 1, 1) by decide +kernel) rfl
theorem pL_law_288 : xX E mL_law 288 [l0, l1, l2, l3, l4, l5, l6, l7, l8, l9, l10, l11, l12, l13, l14] st S V Q ↔ xX E mL_law 289 [l0, l1, l2, l3, l4, l5, l6, l7, l8, l9, l10, l11, l12, l13, l14] (.int (nI 1) :: st) S V Q := xi (show decode cL_law 288 = .ok (.iconst 1, 1) by decide +kernel) rfl
theorem pL_law_289 {x0 : Int32} (h : xkd S a = 5) (hc : xcat st ≤ 8) : xX E mL_law 289 [l0, l1, l2, l3, l4, l5, l6, l7, l8, l9, l10, l11, l12, l13, l14] (.int x0 :: .ref a :: st) S V Q ↔ xC E mX4_save [.ref a, .int x0] S V (fun v S V => xX E mL_law 292 [l0, l1, l2, l3, l4, l5, l6, l7, l8, l9, l10, l11, l12, l13, l14] (v.toList ++ st) S V Q) := xi_callV (as := [.int x0]) (show decode cL_law 289 = .ok (.invokevirtual 61, 3) by decide +kernel) xct_6_61 rfl rfl (by decide) (Nat.le_of_ble_eq_true rfl) rfl h hc
theorem pL_law_292 : xX E mL_law 292 [l0, l1, l2, l3, l4, l5, l6, l7, l8, l9, l10, l11, l12, l13, l14] (.int x :: st) S V Q ↔ xX E mL_law 293 [l0, l1, l2, l3, l4, l5, l6, l7, l8, l9, l10, l11, l12, l13, l14] st S V Q := xi (show decode cL_law 292 = .ok (.pop, 1) by decide +kernel) rfl
theorem pL_law_293 : xX E mL_law 293 [l0, l1, l2, l3, l4, l5, l6, l7, l8, l9, l10, some (.long u), l12, l13, l14] st S V Q ↔ xX E mL_law 295 [l0, l1, l2, l3, l4, l5, l6, l7, l8, l9, l10, some (.long u), l12, l13, l14] (.long u :: st) S V Q := xi (show decode cL_law 293 = .ok (.lload 11, 2) by decide +kernel) rfl
theorem pL_law_295 (h : xnl l1 = true) : xX E mL_law 295 [l0, l1, l2, l3, l4, l5, l6, l7, l8, l9, l10, l11, l12, l13, l14] (.long u :: st) S V Q ↔ xX E mL_law 296 [l0, l1, some (.long u), none, l4, l5, l6, l7, l8, l9, l10, l11, l12, l13, l14] st S V Q := xi_st2 (j := 1) (v := .long u) (show decode cL_law 295 = .ok (.lstore_n 2, 1) by decide +kernel) rfl h rfl rfl
theorem pL_law_296 (h : xnl l3 = true) : xX E mL_law 296 [l0, l1, l2, l3, some (.int (nI a)), l5, l6, l7, l8, l9, l10, l11, l12, l13, l14] st S V Q ↔ xX E mL_law 299 [l0, l1, l2, l3, some (.int (nI (a + 1))), l5, l6, l7, l8, l9, l10, l11, l12, l13, l14] st S V Q := xi_iinc (j := 3) (show decode cL_law 296 = .ok (.iinc 4 1, 3) by decide +kernel) rfl h rfl (nI_add a 1) (Nat.le_of_ble_eq_true rfl) rfl
theorem pL_law_299 : xX E mL_law 299 [l0, l1, l2, l3, l4, l5, l6, l7, l8, l9, l10, l11, l12, l13, l14] st S V Q ↔ xX E mL_law 45 [l0, l1, l2, l3, l4, l5, l6, l7, l8, l9, l10, l11, l12, l13, l14] st S V Q := xi_goto (show decode cL_law 299 = .ok (.goto (-254), 3) by decide +kernel) (by decide)
theorem pL_law_302 : xX E mL_law 302 [l0, some (.ref a), l2, l3, l4, l5, l6, l7, l8, l9, l10, l11, l12, l13, l14] st S V Q ↔ xX E mL_law 303 [l0, some (.ref a), l2, l3, l4, l5, l6, l7, l8, l9, l10, l11, l12, l13, l14] (.ref a :: st) S V Q := xi (show decode cL_law 302 = .ok (.aload_n 1, 1) by decide +kernel) rfl
theorem pL_law_303 : xX E mL_law 303 [l0, l1, l2, l3, l4, l5, l6, l7, l8, l9, l10, l11, l12, l13, l14] st S V Q ↔ xX E mL_law 304 [l0, l1, l2, l3, l4, l5, l6, l7, l8, l9, l10, l11, l12, l13, l14] (.int (nI 1) :: st) S V Q := xi (show decode cL_law 303 = .ok (.iconst 1, 1) by decide +kernel) rfl
theorem pL_law_304 {x0 : Int32} (h : xkd S a = 5) (hc : xcat st ≤ 8) : xX E mL_law 304 [l0, l1, l2, l3, l4, l5, l6, l7, l8, l9, l10, l11, l12, l13, l14] (.int x0 :: .ref a :: st) S V Q ↔ xC E mX4_restore [.ref a, .int x0] S V (fun v S V => xX E mL_law 307 [l0, l1, l2, l3, l4, l5, l6, l7, l8, l9, l10, l11, l12, l13, l14] (v.toList ++ st) S V Q) := xi_callV (as := [.int x0]) (show decode cL_law 304 = .ok (.invokevirtual 67, 3) by decide +kernel) xct_6_67 rfl rfl (by decide) (Nat.le_of_ble_eq_true rfl) rfl h hc
theorem pL_law_307 : xX E mL_law 307 [l0, some (.ref a), l2, l3, l4, l5, l6, l7, l8, l9, l10, l11, l12, l13, l14] st S V Q ↔ xX E mL_law 308 [l0, some (.ref a), l2, l3, l4, l5, l6, l7, l8, l9, l10, l11, l12, l13, l14] (.ref a :: st) S V Q := xi (show decode cL_law 307 = .ok (.aload_n 1, 1) by decide +kernel) rfl
theorem pL_law_308 : xX E mL_law 308 [l0, l1, l2, l3, l4, l5, l6, l7, l8, l9, l10, l11, l12, l13, l14] st S V Q ↔ xX E mL_law 309 [l0, l1, l2, l3, l4, l5, l6, l7, l8, l9, l10, l11, l12, l13, l14] (.int (nI 0) :: st) S V Q := xi (show decode cL_law 308 = .ok (.iconst 0, 1) by decide +kernel) rfl
theorem pL_law_309 {x0 : Int32} (h : xkd S a = 5) (hc : xcat st ≤ 8) : xX E mL_law 309 [l0, l1, l2, l3, l4, l5, l6, l7, l8, l9, l10, l11, l12, l13, l14] (.int x0 :: .ref a :: st) S V Q ↔ xC E mX4_count [.ref a, .int x0] S V (fun v S V => xX E mL_law 312 [l0, l1, l2, l3, l4, l5, l6, l7, l8, l9, l10, l11, l12, l13, l14] (v.toList ++ st) S V Q) := xi_callV (as := [.int x0]) (show decode cL_law 309 = .ok (.invokevirtual 12, 3) by decide +kernel) xct_6_12 rfl rfl (by decide) (Nat.le_of_ble_eq_true rfl) rfl h hc
theorem pL_law_312 : xX E mL_law 312 [l0, l1, l2, l3, l4, l5, l6, l7, l8, l9, l10, l11, l12, l13, l14] (.int y :: .int x :: st) S V Q ↔ if ¬ x = y then xX E mL_law 328 [l0, l1, l2, l3, l4, l5, l6, l7, l8, l9, l10, l11, l12, l13, l14] st S V Q else xX E mL_law 315 [l0, l1, l2, l3, l4, l5, l6, l7, l8, l9, l10, l11, l12, l13, l14] st S V Q := xi_icmp (show decode cL_law 312 = .ok (.if_icmp .ne 16, 3) by decide +kernel) (by decide) xcb_ne
theorem pL_law_315 : xX E mL_law 315 [l0, some (.ref a), l2, l3, l4, l5, l6, l7, l8, l9, l10, l11, l12, l13, l14] st S V Q ↔ xX E mL_law 316 [l0, some (.ref a), l2, l3, l4, l5, l6, l7, l8, l9, l10, l11, l12, l13, l14] (.ref a :: st) S V Q := xi (show decode cL_law 315 = .ok (.aload_n 1, 1) by decide +kernel) rfl
theorem pL_law_316 {a1 : Nat} (hc : xcat st ≤ 8) : xX E mL_law 316 [l0, l1, l2, l3, l4, l5, l6, l7, l8, l9, l10, l11, l12, l13, l14] (.ref a1 :: st) S V Q ↔ xC E mL_digest [.ref a1] S V (fun v S V => xX E mL_law 319 [l0, l1, l2, l3, l4, l5, l6, l7, l8, l9, l10, l11, l12, l13, l14] (v.toList ++ st) S V Q) := xi_callS (as := [.ref a1]) (show decode cL_law 316 = .ok (.invokestatic 57, 3) by decide +kernel) xct_6_57 (by decide) rfl rfl (by decide) (Nat.le_of_ble_eq_true rfl) hc
theorem pL_law_319 : xX E mL_law 319 [l0, l1, some (.long u), l3, l4, l5, l6, l7, l8, l9, l10, l11, l12, l13, l14] st S V Q ↔ xX E mL_law 320 [l0, l1, some (.long u), l3, l4, l5, l6, l7, l8, l9, l10, l11, l12, l13, l14] (.long u :: st) S V Q := xi (show decode cL_law 319 = .ok (.lload_n 2, 1) by decide +kernel) rfl
theorem pL_law_320 : xX E mL_law 320 [l0, l1, l2, l3, l4, l5, l6, l7, l8, l9, l10, l11, l12, l13, l14] (.long w :: .long u :: st) S V Q ↔ xX E mL_law 321 [l0, l1, l2, l3, l4, l5, l6, l7, l8, l9, l10, l11, l12, l13, l14] (.int (lg_cmp u w) :: st) S V Q := xi (show decode cL_law 320 = .ok (.lcmp, 1) by decide +kernel) rfl
theorem pL_law_321 : xX E mL_law 321 [l0, l1, l2, l3, l4, l5, l6, l7, l8, l9, l10, l11, l12, l13, l14] (.int x :: st) S V Q ↔ if ¬ x = nI 0 then xX E mL_law 328 [l0, l1, l2, l3, l4, l5, l6, l7, l8, l9, l10, l11, l12, l13, l14] st S V Q else xX E mL_law 324 [l0, l1, l2, l3, l4, l5, l6, l7, l8, l9, l10, l11, l12, l13, l14] st S V Q := xi_if (show decode cL_law 321 = .ok (.ifCond .ne 7, 3) by decide +kernel) (by decide) xcb_ne
theorem pL_law_324 : xX E mL_law 324 [l0, l1, l2, l3, l4, l5, l6, l7, l8, l9, l10, l11, l12, l13, l14] st S V Q ↔ xX E mL_law 325 [l0, l1, l2, l3, l4, l5, l6, l7, l8, l9, l10, l11, l12, l13, l14] (.int (nI 1) :: st) S V Q := xi (show decode cL_law 324 = .ok (.iconst 1, 1) by decide +kernel) rfl
theorem pL_law_325 : xX E mL_law 325 [l0, l1, l2, l3, l4, l5, l6, l7, l8, l9, l10, l11, l12, l13, l14] st S V Q ↔ xX E mL_law 329 [l0, l1, l2, l3, l4, l5, l6, l7, l8, l9, l10, l11, l12, l13, l14] st S V Q := xi_goto (show decode cL_law 325 = .ok (.goto 4, 3) by decide +kernel) (by decide)
theorem pL_law_328 : xX E mL_law 328 [l0, l1, l2, l3, l4, l5, l6, l7, l8, l9, l10, l11, l12, l13, l14] st S V Q ↔ xX E mL_law 329 [l0, l1, l2, l3, l4, l5, l6, l7, l8, l9, l10, l11, l12, l13, l14] (.int (nI 0) :: st) S V Q := xi (show decode cL_law 328 = .ok (.iconst 0, 1) by decide +kernel) rfl
theorem pL_law_329 (h : b < 2) : xX E mL_law 329 [l0, l1, l2, l3, l4, l5, l6, l7, l8, l9, l10, l11, l12, l13, l14] [.int (nI b)] S V Q ↔ Q (some (.int (nI b))) S V := xi_retZ (show decode cL_law 329 = .ok (.ireturn, 1) by decide +kernel) rfl h
end PR
end
