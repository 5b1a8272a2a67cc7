/-! how many deals: the number, and sums of longs -/
def sL (f : Nat → Int64) : Nat → Int64
  | 0 => 0
  | n + 1 => sL f n + f n
theorem sL_add (f h : Nat → Int64) : ∀ n, sL (fun i => f i + h i) n = sL f n + sL h n
  | 0 => rfl
  | n + 1 => by
    simp only [sL]
    rw [sL_add f h n, Int64.add_assoc, Int64.add_assoc, ← Int64.add_assoc (f n), Int64.add_comm (f n) (sL h n), Int64.add_assoc]
theorem sL_zero {f : Nat → Int64} : ∀ n, (∀ i, i < n → f i = 0) → sL f n = 0
  | 0, _ => rfl
  | n + 1, h => by simp only [sL]; rw [sL_zero n (fun i hi => h i (by omega)), h n (by omega)]; rfl
theorem sL_one {f : Nat → Int64} {p : Nat} : ∀ n, (∀ i, i ≠ p → f i = 0) → sL f n = if p < n then f p else 0
  | 0, _ => by simp [sL]
  | n + 1, h => by
    simp only [sL]
    rw [sL_one n h]
    by_cases e : n = p
    · subst e; rw [if_neg (by omega), if_pos (by omega), Int64.zero_add]
    · rw [h n e, Int64.add_zero]
      by_cases l : p < n
      · rw [if_pos l, if_pos (by omega)]
      · rw [if_neg l, if_neg (by omega)]
theorem sL_cong {f h : Nat → Int64} : ∀ n, (∀ i, i < n → f i = h i) → sL f n = sL h n
  | 0, _ => rfl
  | n + 1, e => by simp only [sL]; rw [sL_cong n (fun i hi => e i (by omega)), e n (by omega)]
/-- in how many ways the first n bones that are unseen go to three seats, x y z of them, and the others to the stock -/
def gw (u : Nat → Bool) (m : Nat → Nat → Bool) : Nat → Nat → Nat → Nat → Nat
  | 0, x, y, z => if x = 0 ∧ y = 0 ∧ z = 0 then 1 else 0
  | b + 1, x, y, z => if u b then (if m b 0 ∧ 0 < x then gw u m b (x - 1) y z else 0) + (if m b 1 ∧ 0 < y then gw u m b x (y - 1) z else 0) + (if m b 2 ∧ 0 < z then gw u m b x y (z - 1) else 0) + (if m b 4 then gw u m b x y z else 0) else gw u m b x y z
/-- the seats but one -/
def ot (v k : Nat) : Nat := if k < v then k else k + 1
def un (w : Nat → Nat → Nat) (v b : Nat) : Bool := decide (¬ w 21 b = v) && decide (¬ w 21 b = 11)
/-- a seat has shown by a pass that it has not this bone -/
def shP (w : Nat → Nat → Nat) (s b t : Nat) : Bool := decide (w 25 t = s) && (decide (w 26 t = 0) && (hs b (w 28 t) || hs b (w 29 t)))
def shB (g : Nat → Nat) (w : Nat → Nat → Nat) (s b : Nat) : Bool := decide (0 < cn (shP w s b) (g 22))
/-- how many bones a seat but v has, 0 beyond -/
def rm (g : Nat → Nat) (w : Nat → Nat → Nat) (v k : Nat) : Nat := if k < g 1 - 1 then many g w (ot v k) else 0
section DA
variable {sc : Nat × (Nat → Int32)} {d : Nat} {L : Nat → Nat} {σ : Nat → Int32} {α : Nat → Nat → Int32} {τ : Nat → Int32} {β : Nat → Nat → Int32} {γ : Nat → Nat → Int64} {g : Nat → Nat} {w : Nat → Nat → Nat}
theorem m_isShut (h : RM g w τ β) (hg : Bd g w) {s b : Nat} (hs4 : s < 100) (hb : b < 28) : Ev sc (d + 4) 132 [.ref 21, .int (nI s), .int (nI b)] (mem L σ α τ β γ) (some (.int (bI (shB g w s b))), mem L σ α τ β γ) := by
  obtain ⟨hS, -, ⟨-, h3⟩, -, -, -, hpl, -, h22, -, ht⟩ := id hg
  have fin : ∀ m j, j + m = g 22 → (0 < cn (shP w s b) (g 22)) → EvL sc (d + 3) me_132 5 [some (.ref 21), some (.int (nI s)), some (.int (nI b)), some (.int (1 : Int32)), some (.int (nI j))] [] (mem L σ α τ β γ) 0 0 (some (.int (bI (shB g w s b))), mem L σ α τ β γ) := by
    intro m
    induction m with
    | zero =>
      intro j hj hc
      refine q_132_5 ?_
      rw [h.1.2.2.2.2.2.2.2.2.2.2.2.1, if_neg (nI_nlt (by omega) (by omega)), if_pos (by decide)]
      unfold shB
      rw [decide_eq_true hc]
      rfl
    | succ m ih =>
      intro j hj hc
      refine q_132_5 ?_
      rw [h.1.2.2.2.2.2.2.2.2.2.2.2.1, if_pos (nI_lt (by omega) (by omega)), if_neg (by decide), nI_1]
      exact ih (j + 1) (by omega) hc
  have key : ∀ m j, j + m = g 22 → cn (shP w s b) j = 0 → EvL sc (d + 3) me_132 5 [some (.ref 21), some (.int (nI s)), some (.int (nI b)), some (.int (0 : Int32)), some (.int (nI j))] [] (mem L σ α τ β γ) 0 0 (some (.int (bI (shB g w s b))), mem L σ α τ β γ) := by
    intro m
    induction m with
    | zero =>
      intro j hj hc
      refine q_132_5 ?_
      have e : j = g 22 := by omega
      subst e
      rw [h.1.2.2.2.2.2.2.2.2.2.2.2.1, if_neg (nI_nlt (by omega) (by omega)), if_pos (by decide)]
      unfold shB
      rw [hc]
      rfl
    | succ m ih =>
      intro j hj hc
      have ih := ih (j + 1) (by omega)
      simp only [cn, hc] at ih
      obtain ⟨b1, b2, b3, b4, b5, b6⟩ := h.2.2.2.2 j (by omega)
      obtain ⟨t1, t2, t3, t4, t5, t6⟩ := ht j (by omega)
      have e1 : nI (w 25 j) = nI s ↔ w 25 j = s := nI_eq (by omega) (by omega)
      have e2 : mI (w 26 j) = -1 ↔ w 26 j = 0 := mI_eq_m1 (by omega)
      have hin : ¬ (nI j < 0 ∨ 200 ≤ (nI j).toNatClampNeg) := in_nI (by omega) (by decide)
      refine q_132_5 ?_
      rw [h.1.2.2.2.2.2.2.2.2.2.2.2.1, if_pos (nI_lt (by omega) (by omega)), if_pos rfl, if_neg hin, cl_nI (by omega), b1]
      have hin' : ¬ (nI j < 0 ∨ 200 ≤ j) := in_cl (by omega) (by decide)
      by_cases p1 : w 25 j = s
      · rw [if_pos (e1.mpr p1), if_neg hin', b2]
        by_cases p2 : w 26 j = 0
        · rw [if_pos (e2.mpr p2), if_neg hin', b4]
          refine cli (m_has hb _) (q_132_51 ?_)
          rw [hasI_mI hb (by omega)]
          cases q1 : hs b (w 28 j) with
          | true =>
            rw [if_neg (by decide), nI_1]
            exact fin m (j + 1) (by omega) (cn_mono (i := j) (by simp [shP, p1, p2, q1]) (by omega))
          | false =>
            rw [if_pos (by decide), cl_nI (by omega), if_neg hin', b5]
            refine cli (m_has hb _) (q_132_65 ?_)
            rw [hasI_mI hb (by omega)]
            cases q2 : hs b (w 29 j) with
            | true =>
              rw [if_neg (by decide), nI_1]
              exact fin m (j + 1) (by omega) (cn_mono (i := j) (by simp [shP, p1, p2, q2]) (by omega))
            | false =>
              rw [if_pos (by decide), nI_1]
              exact ih (by simp [shP, q1, q2])
        · rw [if_neg (fun z => p2 (e2.mp z)), nI_1]
          exact ih (by simp [shP, p2])
      · rw [if_neg (fun z => p1 (e1.mp z)), nI_1]
        exact ih (by simp [shP, p1])
  exact e_start rfl rfl rfl (q_132_0 (key (g 22) 0 (by omega) rfl))
/-- what the reference has reckoned of the seats but v -/
def RK (g : Nat → Nat) (w : Nat → Nat → Nat) (v : Nat) (m : Nat → Nat → Bool) (τ : Nat → Int32) (β : Nat → Nat → Int32) : Prop :=
  τ 33 = nI (g 1 - 1) ∧ (∀ k, k < g 1 - 1 → β 34 k = nI (ot v k) ∧ β 33 k = nI (many g w (ot v k))) ∧ ∀ b, b < g 3 → (∀ k, k < g 1 - 1 → β 32 (5 * b + k) = bI (m b k)) ∧ β 32 (5 * b + 4) = bI (m b 4)
def mkA (g : Nat → Nat) (w : Nat → Nat → Nat) (v b k : Nat) : Bool := un w v b && (decide (k = 4) || !shB g w (ot v k) b)
theorem m_roomOf (hg : Bd g w) {v : Nat} {m : Nat → Nat → Bool} (hk : RK g w v m τ β) {k : Nat} (hk3 : k < 3) : Ev sc (d + 1) 133 [.ref 21, .int (nI k)] (mem L σ α τ β γ) (some (.int (nI (rm g w v k))), mem L σ α τ β γ) := by
  have h1 := hg.1
  refine e_start rfl rfl rfl (q_133_0 ?_)
  unfold rm
  rw [hk.1]
  by_cases c : k < g 1 - 1
  · rw [if_pos (nI_lt c (by omega)), if_neg (in_nI hk3 (by decide)), cl_nI (by omega), (hk.2.1 k c).2, if_pos c]
  · rw [if_neg (nI_nlt (by omega) (by omega)), if_neg c]; rfl
theorem m_isUnseen (h : RM g w τ β) (hg : Bd g w) {v b : Nat} (hv : v < 100) (h34 : τ 34 = nI v) (hb : b < 28) : Ev sc (d + 1) 135 [.ref 21, .int (nI b)] (mem L σ α τ β γ) (some (.int (bI (un w v b))), mem L σ α τ β γ) := by
  have hp := hg.2.2.2.2.2.2.1 b hb
  have e1 : nI (w 21 b) = nI v ↔ w 21 b = v := nI_eq (by omega) (by omega)
  have e2 : nI (w 21 b) = 11 ↔ w 21 b = 11 := nI_eq (b := 11) (by omega) (by decide)
  refine e_start rfl rfl rfl (q_135_0 ?_)
  rw [if_neg (in_nI hb (by decide)), cl_nI (by omega), h.2.1 b hb, h34]
  unfold un
  by_cases p1 : w 21 b = v
  · rw [if_pos (e1.mpr p1)]; simp [p1, bI]
  · rw [if_neg (fun z => p1 (e1.mp z)), if_neg (in_cl hb (by decide))]
    by_cases p2 : w 21 b = 11
    · rw [if_pos (e2.mpr p2)]; simp [p2, bI]
    · rw [if_neg (fun z => p2 (e2.mp z))]; simp [p1, p2, bI]
end DA
