/-! bones, the common state, and how the reference holds it -/
theorem in_cl {n N : Nat} (h : n < N) (hN : N < 2 ^ 31) : ¬ (nI n < 0 ∨ N ≤ n) := fun z => z.elim (fun z => nI_pos (by omega) z) (fun z => by omega)
def lo (b : Nat) : Nat := ([0, 0, 1, 0, 1, 2, 0, 1, 2, 3, 0, 1, 2, 3, 4, 0, 1, 2, 3, 4, 5, 0, 1, 2, 3, 4, 5, 6] : List Nat).getD b 0
def hi (b : Nat) : Nat := ([0, 1, 1, 2, 2, 2, 3, 3, 3, 3, 4, 4, 4, 4, 4, 5, 5, 5, 5, 5, 5, 6, 6, 6, 6, 6, 6, 6] : List Nat).getD b 0
def wt (b : Nat) : Nat := hi b + lo b
theorem lo_ok : ∀ b, b < 28 → dk_low b = nI (lo b) := by decide +kernel
theorem hi_ok : ∀ b, b < 28 → dk_high b = nI (hi b) := by decide +kernel
theorem lo_le : ∀ b, b < 28 → lo b ≤ hi b ∧ hi b ≤ 6 := by decide +kernel
theorem wt_le : ∀ b, b < 28 → wt b ≤ 12 := by decide +kernel
/-- a bone has these pips -/
def hasP (b p : Nat) : Bool := decide (hi b = p) || decide (lo b = p)
/-- the same of pips that are told one higher, 0 for none -/
def hs (b q : Nat) : Bool := match q with
  | 0 => false
  | p + 1 => hasP b p
def hasI (b : Nat) (x : Int32) : Bool := decide (nI (hi b) = x) || decide (nI (lo b) = x)
theorem hasI_nI {b p : Nat} (hb : b < 28) (hp : p < 2 ^ 31) : hasI b (nI p) = hasP b p := by
  have := lo_le b hb
  unfold hasI hasP
  rw [decide_eq_decide.mpr (nI_eq (a := hi b) (by omega) hp), decide_eq_decide.mpr (nI_eq (a := lo b) (by omega) hp)]
theorem hasI_m1 {b : Nat} (hb : b < 28) : hasI b (-1) = false := by
  have := lo_le b hb
  unfold hasI
  rw [decide_eq_false (nI_ne_m1 (by omega)), decide_eq_false (nI_ne_m1 (by omega))]
  rfl
theorem hasI_mI {b q : Nat} (hb : b < 28) (hq : q < 2 ^ 31) : hasI b (mI q) = hs b q := by
  cases q with
  | zero => rw [mI_0, hasI_m1 hb]; rfl
  | succ p => rw [mI_succ, hasI_nI hb (by omega)]; rfl
def sides (S : Nat) : Nat := if S = 4 then 2 else S
def side (S s : Nat) : Nat := if S = 4 then s % 2 else s
/-- how the reference holds the common state: g the numbers (1 seats, 2 target, 3 bones, 7 how, 8 h, 9 on turn, 10 begun, 11 winner + 1, 14 first, 15 end, 22 turns, 23 side that got + 1, 24 points), w the rows (21 place, 22 score, 23 24 the row, 25 seat, 26 bone + 1, 27 end + 1, 28 29 pips + 1, 30 false) -/
def RM (g : Nat → Nat) (w : Nat → Nat → Nat) (τ : Nat → Int32) (β : Nat → Nat → Int32) : Prop :=
  (τ 1 = nI (g 1) ∧ τ 2 = nI (g 2) ∧ τ 3 = nI (g 3) ∧ τ 4 = nI (sides (g 1)) ∧ τ 7 = nI (g 7) ∧ τ 8 = nI (g 8) ∧ τ 9 = nI (g 9) ∧ τ 10 = nI (g 10) ∧ τ 11 = mI (g 11) ∧ τ 14 = nI (g 14) ∧ τ 15 = nI (g 15) ∧ τ 22 = nI (g 22) ∧ τ 23 = mI (g 23) ∧ τ 24 = nI (g 24)) ∧
  (∀ i, i < 28 → β 21 i = nI (w 21 i)) ∧ (∀ i, i < 4 → β 22 i = nI (w 22 i)) ∧ (∀ i, g 14 ≤ i → i < g 15 → β 23 i = nI (w 23 i) ∧ β 24 i = nI (w 24 i)) ∧
  (∀ i, i < g 22 → β 25 i = nI (w 25 i) ∧ β 26 i = mI (w 26 i) ∧ β 27 i = mI (w 27 i) ∧ β 28 i = mI (w 28 i) ∧ β 29 i = mI (w 29 i) ∧ β 30 i = nI (w 30 i))
/-- what holds of every state: bounds -/
def Bd (g : Nat → Nat) (w : Nat → Nat → Nat) : Prop :=
  (2 ≤ g 1 ∧ g 1 ≤ 4) ∧ (1 ≤ g 2 ∧ g 2 ≤ 1000) ∧ (6 ≤ g 3 ∧ g 3 ≤ 28) ∧ g 7 ≤ 3 ∧ g 8 ≤ 14 ∧ g 9 < g 1 ∧ (∀ i, i < 28 → w 21 i ≤ 11) ∧
  (2 ≤ g 14 ∧ g 14 ≤ 30 ∧ 30 ≤ g 15 ∧ g 15 ≤ 58) ∧ g 22 ≤ 120 ∧ (∀ i, g 14 ≤ i → i < g 15 → w 23 i ≤ 6 ∧ w 24 i ≤ 6) ∧
  (∀ t, t < g 22 → w 25 t < g 1 ∧ w 26 t ≤ g 3 ∧ w 27 t ≤ 2 ∧ w 28 t ≤ 7 ∧ w 29 t ≤ 7 ∧ w 30 t ≤ 1)
/-- pips at the left and right end, one higher, 0 for none -/
def lp (g : Nat → Nat) (w : Nat → Nat → Nat) : Nat := if g 14 = g 15 then 0 else w 23 (g 14) + 1
def rp (g : Nat → Nat) (w : Nat → Nat → Nat) : Nat := if g 14 = g 15 then 0 else w 24 (g 15 - 1) + 1
/-- a bone fits at an end (any number) -/
def fitE (g : Nat → Nat) (w : Nat → Nat → Nat) (b : Nat) (e : Int32) : Bool := decide (g 14 = g 15) || (decide (e = 0) && hs b (lp g w) || decide (e = 1) && hs b (rp g w))
def canE (g : Nat → Nat) (w : Nat → Nat → Nat) (b : Nat) (e : Int32) : Bool := decide (g 7 = 2) && (decide (b < g 3) && (decide (w 21 b = g 9) && fitE g w b e))
/-- how many bones are at a place; what bones of a side weigh, or of all others -/
def many (g : Nat → Nat) (w : Nat → Nat → Nat) (x : Nat) : Nat := cn (fun b => decide (w 21 b = x)) (g 3)
def own (g : Nat → Nat) (w : Nat → Nat → Nat) (x : Nat) : Nat := sm (fun b => if w 21 b < g 1 ∧ side (g 1) (w 21 b) = x then wt b else 0) (g 3)
def oth (g : Nat → Nat) (w : Nat → Nat → Nat) (x : Nat) : Nat := sm (fun b => if w 21 b < g 1 ∧ ¬ side (g 1) (w 21 b) = x then wt b else 0) (g 3)
/-- passes at the end of the first t turns -/
def tp (w : Nat → Nat → Nat) : Nat → Nat
  | 0 => 0
  | t + 1 => if w 26 t = 0 then tp w t + 1 else 0
theorem tp_le (w : Nat → Nat → Nat) : ∀ t, tp w t ≤ t
  | 0 => Nat.le_refl 0
  | t + 1 => by have := tp_le w t; simp only [tp]; split <;> omega
