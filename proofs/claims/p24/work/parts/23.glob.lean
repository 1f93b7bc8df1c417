/-! ===== all that there is: a state, states to undo, saved ones, a text ===== -/
abbrev pG : Type := (Nat → Nat) × (Nat × (Nat → Nat → Nat)) × ((Nat → Nat → Nat) × (Nat → Bool)) × (Nat × (Nat → Nat))
def gσ (g : pG) : Nat → Nat := g.1
def gu (g : pG) : Nat := g.2.1.1
def gU (g : pG) : Nat → Nat → Nat := g.2.1.2
def gsv (g : pG) : Nat → Nat → Nat := g.2.2.1.1
def gis (g : pG) : Nat → Bool := g.2.2.1.2
def gln (g : pG) : Nat := g.2.2.2.1
def gpd (g : pG) : Nat → Nat := g.2.2.2.2
def gset (g : pG) (σ : Nat → Nat) : pG := (σ, g.2)
def grec (g : pG) : pG := (g.1, if gu g = 6 then (6, fun i => if i = 5 then gσ g else gU g (i + 1)) else (gu g + 1, fun i => if i = gu g then gσ g else gU g i), g.2.2)
def gsave (g : pG) (k : Nat) : pG := (g.1, g.2.1, ((fun i => if i = k then gσ g else gsv g i), fun i => if i = k then true else gis g i), g.2.2.2)
def gundo (g : pG) : pG := (gU g (gu g - 1), (gu g - 1, gU g), g.2.2)
def gG (g : pG) : Prop := gs (gσ g) 100000 ∧ gu g ≤ 6 ∧ (∀ i, i < gu g → gs (gU g i) 100000) ∧ (∀ k, k < 2 → gis g k = true → gs (gsv g k) 100000) ∧ gln g ≤ 72 ∧ ∀ j, j < gln g → 33 ≤ gpd g j ∧ gpd g j ≤ 126
theorem gG_set {g : pG} {σ : Nat → Nat} (h : gG g) (hs : gs σ 100000) : gG (gset g σ) := ⟨hs, h.2⟩
theorem gG_rec {g : pG} (h : gG g) : gG (grec g) := by
  obtain ⟨h1, h2, h3, h4⟩ := h
  unfold grec
  by_cases h6 : gu g = 6
  · rw [if_pos h6]
    refine ⟨h1, Nat.le_refl _, fun i hi => ?_, h4⟩
    show gs (if i = 5 then gσ g else gU g (i + 1)) _
    have hi : i < 6 := hi
    split
    · exact h1
    · exact h3 _ (by omega)
  · rw [if_neg h6]
    refine ⟨h1, ?_, fun i hi => ?_, h4⟩
    · show gu g + 1 ≤ 6
      omega
    · show gs (if i = gu g then gσ g else gU g i) _
      have hi : i < gu g + 1 := hi
      split
      · exact h1
      · exact h3 _ (by omega)
theorem gG_save {g : pG} {k : Nat} (h : gG g) : gG (gsave g k) := by
  obtain ⟨h1, h2, h3, h4, h5⟩ := h
  refine ⟨h1, h2, h3, fun i hi hs => ?_, h5⟩
  show gs (if i = k then gσ g else gsv g i) _
  have hs : (if i = k then true else gis g i) = true := hs
  by_cases hik : i = k
  · rw [if_pos hik]; exact h1
  · rw [if_neg hik]; rw [if_neg hik] at hs; exact h4 i hi hs
theorem gG_undo {g : pG} (h : gG g) (h0 : 0 < gu g) : gG (gundo g) := by
  obtain ⟨h1, h2, h3, h4, h5⟩ := h
  exact ⟨h3 _ (by omega), by show gu g - 1 ≤ 6; omega, fun i hi => h3 i (by have : i < gu g - 1 := hi; omega), h4, h5⟩

/-! ===== the reference: undo, save, restore; what it puts aside ===== -/
theorem xn_toInt {a : Nat} (h : a < 2147483648) : (nI a).toInt = (a : Int) := by
  show (BitVec.ofNat 32 a).toInt = (a : Int)
  rw [BitVec.toInt_eq_toNat_cond, BitVec.toNat_ofNat]
  have : a % 2 ^ 32 = a := Nat.mod_eq_of_lt (by omega)
  rw [this, if_pos (by omega)]
theorem xrng (v : Int32) (lo hi : Nat) (hl : lo ≤ hi) (hh : hi < 2147483648) : (∃ c, lo ≤ c ∧ c ≤ hi ∧ v = nI c) ∨ (¬ (nI lo ≤ v ∧ v ≤ nI hi) ∧ (v < nI lo ∨ nI hi < v)) := by
  by_cases h : nI lo ≤ v ∧ v ≤ nI hi
  · left
    obtain ⟨h1, h2⟩ := h
    rw [Int32.le_iff_toInt_le, xn_toInt (by omega)] at h1
    rw [Int32.le_iff_toInt_le, xn_toInt (by omega)] at h2
    refine ⟨v.toInt.toNat, by omega, by omega, ?_⟩
    apply Int32.toInt_inj.mp
    rw [xn_toInt (by omega)]
    omega
  · right
    refine ⟨h, ?_⟩
    by_cases h1 : v < nI lo
    · exact Or.inl h1
    · exact Or.inr (Int32.not_le.mp fun z => h ⟨Int32.not_lt.mp h1, z⟩)
def ix (v : Int32) : Nat := v.toNatClampNeg
theorem ix_n {c : Nat} (h : c < 2147483648) : ix (nI c) = c := xn_cl h
abbrev pR : Type := Int32 × pG
def pundo (g : pG) : pR := if gu g = 0 then (-5, g) else (nI (gu g - 1), gundo g)
def psave (g : pG) (v : Int32) : pR := if nI 0 ≤ v ∧ v ≤ nI 1 then (nI (gσ g 496), gsave g (ix v)) else (-2, g)
def prestore (g : pG) (v : Int32) : pR := if nI 0 ≤ v ∧ v ≤ nI 1 then (if gis g (ix v) = true then (nI (gsv g (ix v) 496), gset (grec g) (gsv g (ix v))) else (-5, g)) else (-2, g)

/-! ===== the reference: slots that pass, and what if ===== -/
def pfst (P : Nat → Bool) : Nat → Nat → Option Nat
  | 0, a => if P a = true then some a else none
  | k + 1, a => if P a = true then some a else pfst P k (a + 1)
def plast (σ : Nat → Nat) : Nat → Int32
  | 0 => -6
  | i + 1 => rv (pslotR (pslots i σ))
def pstopR (σ : Nat → Nat) (k : Nat) : Bool := decide (pin (pslots k σ) 0 = 255) || pstuck (pslots k σ)
def prunN (σ : Nat → Nat) : Nat := (pfst (pstopR σ) 1000 0).getD 1000
def puntil (σ : Nat → Nat) (m : Nat) : Option Nat := pfst (fun k => decide (pin (pslots k σ) 0 &&& m = m)) 1000 0
def pstep (g : pG) (v : Int32) : pR := if nI 1 ≤ v ∧ v ≤ nI 200 then (if 100000 < gσ g 496 + ix v then (-4, g) else (plast (gσ g) (ix v), gset (grec g) (pslots (ix v) (gσ g)))) else (-2, g)
def prun (g : pG) : pR := if 99000 < gσ g 496 then (-4, g) else (nI (prunN (gσ g)), gset (grec g) (pslots (prunN (gσ g)) (gσ g)))
def pleft (g : pG) : pR := (rv (puntil (gσ g) 255), g)
theorem pfst_le {P : Nat → Bool} : ∀ {k a r}, pfst P k a = some r → a ≤ r ∧ r ≤ a + k ∧ P r = true := by
  intro k
  induction k with
  | zero =>
    intro a r h
    unfold pfst at h
    split at h
    · rename_i h2; cases h; exact ⟨Nat.le_refl _, Nat.le_refl _, h2⟩
    · cases h
  | succ k ih =>
    intro a r h
    unfold pfst at h
    split at h
    · rename_i h2; cases h; exact ⟨Nat.le_refl _, by omega, h2⟩
    · obtain ⟨h1, h2, h3⟩ := ih h; exact ⟨by omega, by omega, h3⟩
theorem prunN_le (σ : Nat → Nat) : prunN σ ≤ 1000 := by
  unfold prunN
  cases h : pfst (pstopR σ) 1000 0 with
  | none => exact Nat.le_refl _
  | some r => have := pfst_le h; show r ≤ 1000; omega
theorem ctx_n {c : Nat} (h : c < 8) : nI 0 ≤ nI c ∧ nI c ≤ nI 7 := ⟨(xn_le (by decide) (by omega)).mpr (by omega), (xn_le (by omega) (by decide)).mpr (by omega)⟩
theorem rng_n {c lo hi : Nat} (h1 : lo ≤ c) (h2 : c ≤ hi) (h : hi < 2147483648) : nI lo ≤ nI c ∧ nI c ≤ nI hi := ⟨(xn_le (by omega) (by omega)).mpr h1, (xn_le (by omega) h).mpr h2⟩

/-! ===== the reference: its small calls ===== -/
def pokb (k n : Nat) : Bool := decide ((k = 0 ∧ n ≤ 99) ∨ (k = 1 ∧ n ≤ 7) ∨ (k = 2 ∧ n = 0) ∨ (k = 3 ∧ n ≤ 3) ∨ (k = 4 ∧ n ≤ 3) ∨ (k = 5 ∧ n ≤ 99) ∨ (k = 6 ∧ 1 ≤ n ∧ n ≤ 15))
theorem pokb_iff {k n : Nat} : pokb k n = true ↔ pok k n := decide_eq_true_iff
def pargB (b c : Int32) : Bool := decide (nI 0 ≤ b ∧ b ≤ nI 6) && (decide (nI 0 ≤ c ∧ c ≤ nI 99) && pokb (ix b) (ix c))
def pappend (σ : Nat → Nat) (c k n : Nat) : Nat → Nat := su (su (su (su σ (62 * c + (14 + 3 * σ (62 * c))) k) (62 * c + (14 + 3 * σ (62 * c) + 1)) n) (62 * c + (14 + 3 * σ (62 * c) + 2)) 0) (62 * c) (σ (62 * c) + 1)
def padd (g : pG) (a b c : Int32) : pR := if nI 0 ≤ a ∧ a ≤ nI 7 then (if pargB b c = true then (if gσ g (62 * ix a) = 16 then (-4, g) else (nI (gσ g (62 * ix a) + 1), gset (grec g) (pappend (gσ g) (ix a) (ix b) (ix c)))) else (-2, g)) else (-1, g)
def pprefer (g : pG) (a b : Int32) : pR := if nI 0 ≤ a ∧ a ≤ nI 7 then (if nI 0 ≤ b ∧ b ≤ nI 9 then (nI (gσ g (62 * ix a + 3)), gset (grec g) (su (gσ g) (62 * ix a + 3) (ix b))) else (-2, g)) else (-1, g)
def ppost (g : pG) (a b : Int32) : pR := if nI 0 ≤ a ∧ a ≤ nI 7 then (if nI 0 ≤ b ∧ b ≤ nI 999 then (if gσ g (62 * ix a + 4) = 4 then (-4, g) else (nI (gσ g (62 * ix a + 4) + 1), gset (grec g) (precv (gσ g) (ix a) (ix b)))) else (-2, g)) else (-1, g)
def prelease (g : pG) (a : Int32) : pR := if nI 0 ≤ a ∧ a ≤ nI 3 then (if gσ g (497 + ix a) = 0 then (-5, g) else (nI (gσ g (497 + ix a) - 1), gset (grec g) (su (gσ g) (497 + ix a) 0))) else (-1, g)
def pcommand (g : pG) (a b c : Int32) : pR := if nI 0 ≤ a ∧ a ≤ nI 7 then (if nI 0 ≤ b ∧ b < nI (gσ g (62 * ix a)) then (if nI 0 ≤ c ∧ c ≤ nI 2 then (nI (gσ g (62 * ix a + (14 + 3 * ix b + ix c))), g) else (-2, g)) else (-1, g)) else (-1, g)
def pinbox (g : pG) (a b : Int32) : pR := if nI 0 ≤ a ∧ a ≤ nI 7 then (if nI 0 ≤ b ∧ b < nI (gσ g (62 * ix a + 4)) then (nI (gσ g (62 * ix a + (5 + ix b))), g) else (-1, g)) else (-1, g)
def pholder (g : pG) (a : Int32) : pR := if nI 0 ≤ a ∧ a ≤ nI 3 then (if gσ g (497 + ix a) = 0 then (-6, g) else (nI (gσ g (497 + ix a) - 1), g)) else (-1, g)
def pofv (σ : Nat → Nat) (c w : Nat) : Nat :=
  if w = 0 then σ (62 * c) else if w = 1 then σ (62 * c + 1) else if w = 2 then σ (62 * c + 2) else if w = 3 then σ (62 * c + 3) else if w = 4 then plent σ c else if w = 5 then σ (62 * c + 4) else if w = 6 then σ (62 * c + 9) else if w = 7 then pst σ c else if w = 8 then pwait σ c else if w = 9 then (if (pfar σ c).testBit c = true then 1 else 0) else σ (62 * c + w)
def pof (g : pG) (a b : Int32) : pR := if nI 0 ≤ a ∧ a ≤ nI 7 then (if nI 0 ≤ b ∧ b ≤ nI 13 then (nI (pofv (gσ g) (ix a) (ix b)), g) else (-2, g)) else (-1, g)
def pcountv (g : pG) (w : Nat) : Int32 :=
  if w = 0 then nI (gσ g 496) else if w = 1 then nI (pcnt (pin (gσ g) 0) 8) else if w = 2 then nI (pin (gσ g) 1) else if w = 3 then nI (prings (gσ g)) else if w = 4 then nI (pstuck (gσ g)).toNat else if w = 5 then nI (psum (gσ g) 13 8) else if w = 6 then nI (psum (gσ g) 12 8) else if w = 7 then rv (pslotR (gσ g)) else if w = 8 then nI (gln g) else nI (gu g)
def pcount (g : pG) (a : Int32) : pR := if nI 0 ≤ a ∧ a ≤ nI 9 then (pcountv g (ix a), g) else (-2, g)
theorem xidx (v : Int32) (n : Nat) (hn : n < 2147483648) : (∃ c, c < n ∧ v = nI c) ∨ ¬ (nI 0 ≤ v ∧ v < nI n) := by
  by_cases h : nI 0 ≤ v ∧ v < nI n
  · left
    obtain ⟨h1, h2⟩ := h
    rw [Int32.le_iff_toInt_le, xn_toInt (by omega)] at h1
    rw [Int32.lt_iff_toInt_lt, xn_toInt (by omega)] at h2
    refine ⟨v.toInt.toNat, by omega, ?_⟩
    apply Int32.toInt_inj.mp
    rw [xn_toInt (by omega)]
    omega
  · exact Or.inr h
theorem idx_n {c n : Nat} (h : c < n) (hn : n < 2147483648) : nI 0 ≤ nI c ∧ nI c < nI n := ⟨(xn_le (by decide) (by omega)).mpr (by omega), (xn_lt (by omega) hn).mpr h⟩
theorem xsw_d {v : Int32} {hi : Nat} (h : v < nI 0 ∨ nI hi < v) (hh : hi < 2147483648) : v.toInt < 0 ∨ (hi : Int) < v.toInt := by
  rcases h with h | h
  · left; rw [Int32.lt_iff_toInt_lt, xn_toInt (by decide)] at h; omega
  · right; rw [Int32.lt_iff_toInt_lt, xn_toInt hh] at h; exact h

/-! ===== the reference: its small calls, one by one ===== -/
theorem pofv_0 {σ : Nat → Nat} {c : Nat} : pofv σ c 0 = σ (62 * c) := by simp [pofv]
theorem pofv_1 {σ : Nat → Nat} {c : Nat} : pofv σ c 1 = σ (62 * c + 1) := by simp [pofv]
theorem pofv_2 {σ : Nat → Nat} {c : Nat} : pofv σ c 2 = σ (62 * c + 2) := by simp [pofv]
theorem pofv_3 {σ : Nat → Nat} {c : Nat} : pofv σ c 3 = σ (62 * c + 3) := by simp [pofv]
theorem pofv_4 {σ : Nat → Nat} {c : Nat} : pofv σ c 4 = plent σ c := by simp [pofv]
theorem pofv_5 {σ : Nat → Nat} {c : Nat} : pofv σ c 5 = σ (62 * c + 4) := by simp [pofv]
theorem pofv_6 {σ : Nat → Nat} {c : Nat} : pofv σ c 6 = σ (62 * c + 9) := by simp [pofv]
theorem pofv_7 {σ : Nat → Nat} {c : Nat} : pofv σ c 7 = pst σ c := by simp [pofv]
theorem pofv_8 {σ : Nat → Nat} {c : Nat} : pofv σ c 8 = pwait σ c := by simp [pofv]
theorem pofv_9 {σ : Nat → Nat} {c : Nat} : pofv σ c 9 = (if (pfar σ c).testBit c = true then 1 else 0) := by simp [pofv]
theorem pcountv_0 {g : pG} : pcountv g 0 = nI (gσ g 496) := by simp [pcountv]
theorem pcountv_1 {g : pG} : pcountv g 1 = nI (pcnt (pin (gσ g) 0) 8) := by simp [pcountv]
theorem pcountv_2 {g : pG} : pcountv g 2 = nI (pin (gσ g) 1) := by simp [pcountv]
theorem pcountv_3 {g : pG} : pcountv g 3 = nI (prings (gσ g)) := by simp [pcountv]
theorem pcountv_4 {g : pG} : pcountv g 4 = nI (pstuck (gσ g)).toNat := by simp [pcountv]
theorem pcountv_5 {g : pG} : pcountv g 5 = nI (psum (gσ g) 13 8) := by simp [pcountv]
theorem pcountv_6 {g : pG} : pcountv g 6 = nI (psum (gσ g) 12 8) := by simp [pcountv]
theorem pcountv_7 {g : pG} : pcountv g 7 = rv (pslotR (gσ g)) := by simp [pcountv]
theorem pcountv_8 {g : pG} : pcountv g 8 = nI (gln g) := by simp [pcountv]
theorem pcountv_9 {g : pG} : pcountv g 9 = nI (gu g) := by simp [pcountv]

/-! ===== the reference: fault and read ===== -/
def pclear (σ : Nat → Nat) (c : Nat) : Nat → Nat := fun i => if i = 62 * c ∨ i = 62 * c + 1 ∨ i = 62 * c + 2 ∨ i = 62 * c + 9 ∨ (62 * c + 14 ≤ i ∧ i < 62 * c + 62) then 0 else σ i
def ploadN (σ : Nat → Nat) (c : Nat) (f : Nat → Nat × Nat) (m : Nat) : Nat → Nat := itN (fun i τ => pappend τ c (f i).1 (f i).2) m (pclear σ c)
theorem xn_ne6' {c : Nat} (h : c < 2147483648) : ¬ nI c = -6 := by
  intro e
  have := congrArg Int32.toInt e
  rw [xn_toInt h, show (-6 : Int32).toInt = -6 by decide] at this
  omega
theorem ploadN_0 {σ : Nat → Nat} {c : Nat} {f : Nat → Nat × Nat} : ∀ m, ploadN σ c f m (62 * c) = m := by
  intro m
  induction m with
  | zero => exact if_pos (Or.inl rfl)
  | succ m ih =>
    have e : ploadN σ c f (m + 1) = pappend (ploadN σ c f m) c (f m).1 (f m).2 := rfl
    rw [e]
    unfold pappend
    rw [su_eq, ih]

