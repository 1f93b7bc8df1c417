/-! ===== what a state is, and what each step makes of it: numbers alone ===== -/
def su (σ : Nat → Nat) (i v : Nat) : Nat → Nat := fun j => if j = i then v else σ j
theorem su_eq {σ : Nat → Nat} {i v : Nat} : su σ i v i = v := if_pos rfl
theorem su_ne {σ : Nat → Nat} {i v j : Nat} (h : ¬ j = i) : su σ i v j = σ j := if_neg h
def itN {α : Type} (g : Nat → α → α) : Nat → α → α
  | 0, x => x
  | n + 1, x => g n (itN g n x)
theorem itN_s {α : Type} (g : Nat → α → α) (n : Nat) (x : α) : itN g (n + 1) x = g n (itN g n x) := rfl
theorem itN_0 {α : Type} (g : Nat → α → α) (x : α) : itN g 0 x = x := rfl
/-- a set, as a mask -/
def bm (P : Nat → Bool) : Nat → Nat
  | 0 => 0
  | n + 1 => bm P n ||| (if P n = true then 2 ^ n else 0)
theorem bm_lt (P : Nat → Bool) : ∀ n, bm P n < 2 ^ n := by
  intro n
  induction n with
  | zero => exact Nat.zero_lt_one
  | succ n ih =>
    unfold bm
    refine Nat.or_lt_two_pow (Nat.lt_of_lt_of_le ih (Nat.pow_le_pow_right (by decide) (Nat.le_succ n))) ?_
    split
    · exact Nat.pow_lt_pow_right (by decide) (Nat.lt_succ_self n)
    · exact Nat.two_pow_pos _
theorem bm_bit (P : Nat → Bool) : ∀ n i, (bm P n).testBit i = (decide (i < n) && P i) := by
  intro n
  induction n with
  | zero => intro i; simp [bm]
  | succ n ih =>
    intro i
    unfold bm
    rw [Nat.testBit_or, ih]
    by_cases h : i = n
    · subst h
      by_cases hp : P i = true
      · simp [hp]
      · simp [hp]
    · by_cases hp : P n = true
      · rw [if_pos hp, Nat.testBit_two_pow]
        have e1 : decide (i < n + 1) = decide (i < n) := by by_cases h2 : i < n <;> simp [h2] <;> omega
        have e2 : decide (n = i) = false := by simp; omega
        rw [e1, e2, Bool.or_false]
      · rw [if_neg hp]
        have e1 : decide (i < n + 1) = decide (i < n) := by by_cases h2 : i < n <;> simp [h2] <;> omega
        rw [e1]; simp
theorem bm_congr {P P' : Nat → Bool} : ∀ {n}, (∀ i, i < n → P i = P' i) → bm P n = bm P' n := by
  intro n
  induction n with
  | zero => intro _; rfl
  | succ n ih => intro h; unfold bm; rw [ih (fun i hi => h i (by omega)), h n (by omega)]
def pcmd (σ : Nat → Nat) (c p : Nat) : Nat := σ (62 * c + (14 + 3 * p))
def parg (σ : Nat → Nat) (c p : Nat) : Nat := σ (62 * c + (14 + 3 * p + 1))
def pst (σ : Nat → Nat) (c : Nat) : Nat :=
  if σ (62 * c) ≤ σ (62 * c + 1) then 0
  else if 0 < σ (62 * c + 9) then 2
  else if pcmd σ c (σ (62 * c + 1)) = 1 then (if σ (62 * parg σ c (σ (62 * c + 1)) + 4) = 4 then 5 else 1)
  else if pcmd σ c (σ (62 * c + 1)) = 2 then (if σ (62 * c + 4) = 0 then 4 else 1)
  else if pcmd σ c (σ (62 * c + 1)) = 3 then (if 0 < σ (497 + parg σ c (σ (62 * c + 1))) then 3 else 1)
  else 1
def pok (k n : Nat) : Prop := (k = 0 ∧ n ≤ 99) ∨ (k = 1 ∧ n ≤ 7) ∨ (k = 2 ∧ n = 0) ∨ (k = 3 ∧ n ≤ 3) ∨ (k = 4 ∧ n ≤ 3) ∨ (k = 5 ∧ n ≤ 99) ∨ (k = 6 ∧ 1 ≤ n ∧ n ≤ 15)
/-- a context that is well -/
def wfc (σ : Nat → Nat) (c : Nat) : Prop :=
  σ (62 * c) ≤ 16 ∧ σ (62 * c + 1) ≤ σ (62 * c) ∧ σ (62 * c + 2) < 1000 ∧ σ (62 * c + 3) ≤ 9 ∧ σ (62 * c + 4) ≤ 4 ∧ (∀ j, j < 4 → σ (62 * c + (5 + j)) < 1000) ∧ σ (62 * c + 9) ≤ 99 ∧ (∀ j, j < 4 → σ (62 * c + (10 + j)) ≤ σ 496) ∧
  ∀ p, p < σ (62 * c) → pok (pcmd σ c p) (parg σ c p) ∧ σ (62 * c + (14 + 3 * p + 2)) ≤ 1
def wf (σ : Nat → Nat) : Prop := (∀ i, σ i ≤ 200000) ∧ (∀ c, c < 8 → wfc σ c) ∧ ∀ k, k < 4 → σ (497 + k) ≤ 8
/-- has a context a SEND to another among its commands, places from a to a + n -/
def psend (σ : Nat → Nat) (c to a : Nat) : Nat → Bool
  | 0 => false
  | n + 1 => psend σ c to a n || (decide (pcmd σ c (a + n) = 1) && decide (parg σ c (a + n) = to))
def psends (σ : Nat → Nat) (c to : Nat) : Bool := psend σ c to (σ (62 * c + 1)) (σ (62 * c) - σ (62 * c + 1))
def pwait (σ : Nat → Nat) (c : Nat) : Nat :=
  if pst σ c = 5 then 2 ^ parg σ c (σ (62 * c + 1))
  else if pst σ c = 3 then 2 ^ (σ (497 + parg σ c (σ (62 * c + 1))) - 1)
  else if pst σ c = 4 then bm (fun o => decide (¬ o = c) && (decide (¬ σ (62 * o) ≤ σ (62 * o + 1)) && psends σ o c)) 8
  else 0
def fstep (c o : Nat) (f : Nat → Nat) : Nat → Nat := su f c (f c ||| (if (f c).testBit o = true then f o else 0))
def fctx (c : Nat) (f : Nat → Nat) : Nat → Nat := itN (fun o f => fstep c o f) 8 f
def frnd (f : Nat → Nat) : Nat → Nat := itN fctx 8 f
def ffar (w : Nat → Nat) : Nat → Nat := itN (fun _ f => frnd f) 8 w
/-- the first n of f, else g -/
def fto (w g : Nat → Nat) (n : Nat) : Nat → Nat := fun i => if i < n then w i else g i
def pfar (σ : Nat → Nat) : Nat → Nat := ffar (fto (pwait σ) (fun _ => 0) 8)
def plentN (σ f : Nat → Nat) (c : Nat) : Nat → Nat
  | 0 => σ (62 * c + 3)
  | n + 1 => if (f n).testBit c = true ∧ plentN σ f c n < σ (62 * n + 3) then σ (62 * n + 3) else plentN σ f c n
def plent (σ : Nat → Nat) (c : Nat) : Nat := plentN σ (pfar σ) c 8
def pbest (σ : Nat → Nat) (own : Nat) : Nat → Option Nat
  | 0 => none
  | k + 1 => if pst σ ((own + (k + 1)) % 8) = 1 ∧ (∀ b, pbest σ own k = some b → plent σ b < plent σ ((own + (k + 1)) % 8)) then some ((own + (k + 1)) % 8) else pbest σ own k
def prunner (σ : Nat → Nat) (own : Nat) : Option Nat := if pst σ own = 1 then some own else pbest σ own 7
def rv (r : Option Nat) : Int32 := match r with
  | none => -6
  | some c => nI c
def pback (σ : Nat → Nat) (c n : Nat) : Nat → Nat :=
  if σ (62 * c + (14 + 3 * σ (62 * c + 1) + 2)) = 1 then su (su σ (62 * c + (14 + 3 * σ (62 * c + 1) + 2)) 0) (62 * c + 1) (σ (62 * c + 1) + 1)
  else su (su σ (62 * c + (14 + 3 * σ (62 * c + 1) + 2)) 1) (62 * c + 1) (σ (62 * c + 1) - n)
def precv (σ : Nat → Nat) (c v : Nat) : Nat → Nat := su (su σ (62 * c + (5 + σ (62 * c + 4))) v) (62 * c + 4) (σ (62 * c + 4) + 1)
def ptake (σ : Nat → Nat) (c : Nat) : Nat → Nat :=
  su (su (su (su (su (su σ (62 * c + 2) ((σ (62 * c + 2) + σ (62 * c + 5)) % 1000)) (62 * c + 5) (σ (62 * c + 6))) (62 * c + 6) (σ (62 * c + 7))) (62 * c + 7) (σ (62 * c + 8))) (62 * c + 8) 0) (62 * c + 4) (σ (62 * c + 4) - 1)
def pruns (σ : Nat → Nat) (c : Nat) : Nat → Nat :=
  if pcmd σ c (σ (62 * c + 1)) = 6 then pback σ c (parg σ c (σ (62 * c + 1)))
  else if pcmd σ c (σ (62 * c + 1)) = 0 then su (su σ (62 * c + 1) (σ (62 * c + 1) + 1)) (62 * c + 2) ((σ (62 * c + 2) + parg σ c (σ (62 * c + 1))) % 1000)
  else if pcmd σ c (σ (62 * c + 1)) = 1 then precv (su σ (62 * c + 1) (σ (62 * c + 1) + 1)) (parg σ c (σ (62 * c + 1))) (σ (62 * c + 2))
  else if pcmd σ c (σ (62 * c + 1)) = 2 then ptake (su σ (62 * c + 1) (σ (62 * c + 1) + 1)) c
  else if pcmd σ c (σ (62 * c + 1)) = 3 then su (su σ (62 * c + 1) (σ (62 * c + 1) + 1)) (497 + parg σ c (σ (62 * c + 1))) (c + 1)
  else if pcmd σ c (σ (62 * c + 1)) = 4 then su (su σ (62 * c + 1) (σ (62 * c + 1) + 1)) (497 + parg σ c (σ (62 * c + 1))) (if σ (497 + parg σ c (σ (62 * c + 1))) = c + 1 then 0 else σ (497 + parg σ c (σ (62 * c + 1))))
  else su (su σ (62 * c + 1) (σ (62 * c + 1) + 1)) (62 * c + 9) (parg σ c (σ (62 * c + 1)))
def pwakes (σ : Nat → Nat) : Nat → Nat := itN (fun c τ => su τ (62 * c + 9) (τ (62 * c + 9) - 1)) 8 σ
def pacct (σ : Nat → Nat) (own : Nat) (r : Option Nat) : Nat → Nat := match r with
  | none => su σ (62 * own + 13) (σ (62 * own + 13) + 1)
  | some c => if c = own then su σ (62 * own + 10) (σ (62 * own + 10) + 1)
    else su (su σ (62 * own + 12) (σ (62 * own + 12) + 1)) (62 * c + 11) (σ (62 * c + 11) + 1)
/-- a slot: who ran, and the state behind it -/
def pslotR (σ : Nat → Nat) : Option Nat := prunner (pwakes σ) (σ 496 % 8)
def pslot (σ : Nat → Nat) : Nat → Nat :=
  su (match pslotR σ with
    | none => pacct (pwakes σ) (σ 496 % 8) none
    | some c => pruns (pacct (pwakes σ) (σ 496 % 8) (some c)) c) 496 (σ 496 + 1)
def pslots : Nat → (Nat → Nat) → (Nat → Nat)
  | 0, σ => σ
  | n + 1, σ => pslot (pslots n σ)
def pin (σ : Nat → Nat) (k : Nat) : Nat := bm (fun c => decide (pst σ c = k)) 8
def pstuck (σ : Nat → Nat) : Bool := decide (¬ pin σ 0 = 255) && (decide (pin σ 1 = 0) && decide (pin σ 2 = 0))

