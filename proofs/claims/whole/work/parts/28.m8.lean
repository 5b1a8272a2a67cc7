/-! the reference: give, begin, and the answers, as the common state has them -/
def aScore (g : Nat → Nat) (w : Nat → Nat → Nat) (x : Int32) : Int32 := if bel x (sides (g 1)) then nI (w 22 x.toNatClampNeg) else -1
def aWhere (g : Nat → Nat) (w : Nat → Nat → Nat) (x : Int32) : Int32 := if g 7 = 0 then -1 else if bel x (g 3) then nI (w 21 x.toNatClampNeg) else -1
def aRow (g : Nat → Nat) (w : Nat → Nat → Nat) (x : Int32) : Int32 := if bel x (g 15 - g 14) then nI (10 * w 23 (g 14 + x.toNatClampNeg) + w 24 (g 14 + x.toNatClampNeg)) else -1
def aTurn (g : Nat → Nat) (w : Nat → Nat → Nat) (x y : Int32) : Int32 := if bel x (g 22) then (if y = 0 then nI (w 25 x.toNatClampNeg) else if y = 1 then mI (w 26 x.toNatClampNeg) else if y = 2 then mI (w 27 x.toNatClampNeg) else -1) else -1
def aHand (g : Nat → Nat) (w : Nat → Nat → Nat) (x y : Int32) : Int32 := if g 7 = 0 then -1 else if bel x (g 1) then (if y < 0 then -1 else mI (fd (fun b => decide (w 21 b = x.toNatClampNeg)) (g 3) y.toNatClampNeg 0)) else -1
def aJudge (g : Nat → Nat) (w : Nat → Nat → Nat) : Int32 := if g 7 = 3 then mI (fd (fun t => decide (¬ w 30 t = 0)) (g 22) 0 0) else -1
def aAbout (g : Nat → Nat) (w : Nat → Nat → Nat) (x : Int32) : Int32 :=
  if x = 0 then nI (g 7) else if x = 1 then (if g 7 = 2 then nI (g 9) else -1) else if x = 2 then (if g 7 = 0 then 0 else nI (g 8)) else if x = 3 then (if g 7 = 0 then 0 else nI (many g w 10)) else if x = 4 then nI (g 15 - g 14)
  else if x = 5 then mI (lp g w) else if x = 6 then mI (rp g w) else if x = 7 then nI (g 22) else if x = 8 then mI (g 23) else if x = 9 then nI (g 24) else if x = 10 then mI (g 11) else if x = 11 then nI (g 3) else if x = 12 then nI (g 1) else if x = 13 then nI (g 10) else -1
def giveB (g : Nat → Nat) (w : Nat → Nat → Nat) (s b : Nat) : Bool := decide (g 7 = 1) && (decide (s < g 1) && (decide (b < g 3) && (decide (w 21 b = 10) && decide (¬ many g w s = g 8))))
def beginB (g : Nat → Nat) (w : Nat → Nat → Nat) (s : Nat) : Bool := decide (g 7 = 1) && (decide (s < g 1) && decide (cn (fun i => decide (¬ many g w i = g 8)) (g 1) = 0))
def bgG (g : Nat → Nat) (s : Nat) : Nat → Nat := va_up (va_up (va_up g 7 2) 9 s) 10 (g 10 + 1)
section MI
variable {sc : Nat × (Nat → Int32)} {d : Nat} {L : Nat → Nat} {σ : Nat → Int32} {α : Nat → Nat → Int32} {τ : Nat → Int32} {β : Nat → Nat → Int32} {γ : Nat → Nat → Int64} {g : Nat → Nat} {w : Nat → Nat → Nat}
/-- any number: below 0, in range, or beyond -/
theorem bel_cases (x : Int32) {n : Nat} (hn : n < 2 ^ 31) : (x < 0 ∧ bel x n = false) ∨ (∃ k, k < n ∧ x = nI k ∧ bel x n = true ∧ x.toNatClampNeg = k) ∨ (∃ k, n ≤ k ∧ k < 2 ^ 31 ∧ x = nI k ∧ bel x n = false) := by
  rcases any_nI x with h | ⟨k, hk, rfl⟩
  · exact Or.inl ⟨h, bel_neg h⟩
  · rw [bel_nI hk hn]
    by_cases l : k < n
    · exact Or.inr (Or.inl ⟨k, l, rfl, decide_eq_true l, cl_nI hk⟩)
    · exact Or.inr (Or.inr ⟨k, by omega, hk, rfl, decide_eq_false l⟩)
theorem m_score (h : RM g w τ β) (hg : Bd g w) (x : Int32) : Ev sc (d + 1) 126 [.ref 21, .int x] (mem L σ α τ β γ) (some (.int (aScore g w x)), mem L σ α τ β γ) := by
  have hs := sides_le hg.1
  refine e_start rfl rfl rfl (q_126_0 ?_)
  rw [h.1.2.2.2.1]
  unfold aScore
  rcases bel_cases x (n := sides (g 1)) (by omega) with ⟨h1, h2⟩ | ⟨k, h1, rfl, h2, h3⟩ | ⟨k, h1, hk, rfl, h2⟩
  · rw [if_pos h1, h2]; rfl
  · rw [if_neg (nI_pos (by omega)), if_pos (nI_lt h1 (by omega)), h3, if_neg (in_cl (by omega) (by decide)), h.2.2.1 k (by omega), h2]; rfl
  · rw [if_neg (nI_pos hk), if_neg (nI_nlt h1 hk), h2]; rfl
theorem m_where (h : RM g w τ β) (hg : Bd g w) (x : Int32) : Ev sc (d + 2) 128 [.ref 21, .int x] (mem L σ α τ β γ) (some (.int (aWhere g w x)), mem L σ α τ β γ) := by
  have h7 := hg.2.2.2.1
  have h3' := hg.2.2.1
  have e7 : (0 : Int32) < nI (g 7) ↔ 0 < g 7 := nI_ltI (a := 0) (by decide) (by omega)
  refine e_start rfl rfl rfl (q_128_0 ?_)
  rw [h.1.2.2.2.2.1]
  unfold aWhere
  by_cases hz : g 7 = 0
  · rw [if_neg (fun z => by have := e7.mp z; omega), if_pos hz]
  · rw [if_pos (e7.mpr (by omega)), if_neg hz]
    refine cli (m_isBone h x) (q_128_12 ?_)
    rcases bel_cases x (n := g 3) (by omega) with ⟨h1, h2⟩ | ⟨k, h1, rfl, h2, h3⟩ | ⟨k, h1, hk, rfl, h2⟩
    · rw [h2, if_pos (by decide)]; rfl
    · rw [h2, if_neg (by decide), h3, if_neg (in_cl (by omega) (by decide)), h.2.1 k (by omega)]; rfl
    · rw [h2, if_pos (by decide)]; rfl
theorem m_row (h : RM g w τ β) (hg : Bd g w) (x : Int32) : Ev sc (d + 1) 129 [.ref 21, .int x] (mem L σ α τ β γ) (some (.int (aRow g w x)), mem L σ α τ β γ) := by
  obtain ⟨-, -, -, -, -, -, -, ⟨r1, r2, r3, r4⟩, -⟩ := id hg
  have n10 : (10 : Int32) = nI 10 := rfl
  refine e_start rfl rfl rfl (q_129_0 ?_)
  rw [h.1.2.2.2.2.2.2.2.2.2.1, h.1.2.2.2.2.2.2.2.2.2.2.1, pk_sub (by omega)]
  unfold aRow
  rcases bel_cases x (n := g 15 - g 14) (by omega) with ⟨h1, h2⟩ | ⟨k, h1, rfl, h2, h3⟩ | ⟨k, h1, hk, rfl, h2⟩
  · rw [if_pos h1, h2]; rfl
  · have hr := h.2.2.2.1 (g 14 + k) (by omega) (by omega)
    rw [if_neg (nI_pos (by omega)), if_pos (nI_lt h1 (by omega)), nI_add, cl_nI (by omega), if_neg (in_cl (by omega) (by decide)), if_neg (in_cl (by omega) (by decide)), hr.1, hr.2, n10, pk_mul, nI_add, h2, h3]; rfl
  · rw [if_neg (nI_pos hk), if_neg (nI_nlt h1 hk), h2]; rfl
theorem m_turn (h : RM g w τ β) (hg : Bd g w) (x y : Int32) : Ev sc (d + 1) 130 [.ref 21, .int x, .int y] (mem L σ α τ β γ) (some (.int (aTurn g w x y)), mem L σ α τ β γ) := by
  obtain ⟨-, -, -, -, -, -, -, -, h22, -⟩ := id hg
  refine e_start rfl rfl rfl (q_130_0 ?_)
  rw [h.1.2.2.2.2.2.2.2.2.2.2.2.1]
  unfold aTurn
  rcases bel_cases x (n := g 22) (by omega) with ⟨h1, h2⟩ | ⟨k, h1, rfl, h2, h3⟩ | ⟨k, h1, hk, rfl, h2⟩
  · rw [if_pos h1, h2]; rfl
  · have hr := h.2.2.2.2 k h1
    rw [if_neg (nI_pos (by omega)), if_pos (nI_lt h1 (by omega)), h3, if_neg (in_cl (by omega) (by decide)), hr.1, hr.2.1, hr.2.2.1, h2, if_pos rfl]
    split
    · rfl
    · split
      · rw [if_neg (in_cl (by omega) (by decide))]
      · split
        · rw [if_neg (in_cl (by omega) (by decide))]
        · rfl
  · rw [if_neg (nI_pos hk), if_neg (nI_nlt h1 hk), h2]; rfl
theorem m_hand (h : RM g w τ β) (hg : Bd g w) (x y : Int32) : Ev sc (d + 2) 127 [.ref 21, .int x, .int y] (mem L σ α τ β γ) (some (.int (aHand g w x y)), mem L σ α τ β γ) := by
  obtain ⟨hS, -, ⟨-, h3'⟩, h7, -, -, hpl, -⟩ := id hg
  have e7 : nI (g 7) = (0 : Int32) ↔ g 7 = 0 := nI_eq (b := 0) (by omega) (by decide)
  refine e_start rfl rfl rfl (q_127_0 ?_)
  rw [h.1.2.2.2.2.1]
  unfold aHand
  by_cases hz : g 7 = 0
  · rw [if_pos (e7.mpr hz), if_pos hz]
  · rw [if_neg (fun z => hz (e7.mp z)), if_neg hz]
    refine cli (m_isSeat h x) (q_127_12 ?_)
    rcases bel_cases x (n := g 1) (by omega) with ⟨h1, h2⟩ | ⟨s, h1, rfl, h2, h3⟩ | ⟨k, h1, hk, rfl, h2⟩
    · rw [h2, if_pos (by decide)]; rfl
    · rw [h2, if_neg (by decide), if_pos rfl, h3]
      rcases any_nI y with hy | ⟨k, hk, rfl⟩
      · rw [if_pos hy, if_pos hy]
      · rw [if_neg (nI_pos hk), if_neg (nI_pos hk), cl_nI hk]
        have loop : ∀ m j, j + m = g 3 → ∀ k, k < 2 ^ 31 → EvL sc (d + 1) me_127 26 [some (.ref 21), some (.int (nI s)), none, some (.int (nI k)), some (.int (nI j))] [] (mem L σ α τ β γ) 0 0 (some (.int (mI (fd (fun b => decide (w 21 b = s)) m k j))), mem L σ α τ β γ) := by
          intro m
          induction m with
          | zero =>
            intro j hj k _
            refine q_127_26 ?_
            rw [h.1.2.2.1, if_neg (nI_nlt (by omega) (by omega))]
            simp only [fd]
            rw [mI_0]
          | succ m ih =>
            intro j hj k hk
            have hp := hpl j (by omega)
            have e : nI (w 21 j) = nI s ↔ w 21 j = s := nI_eq (by omega) (by omega)
            refine q_127_26 ?_
            rw [h.1.2.2.1, if_pos (nI_lt (by omega) (by omega)), if_neg (in_nI (by omega) (by decide)), cl_nI (by omega), h.2.1 j (by omega)]
            by_cases hw : w 21 j = s
            · rw [if_pos (e.mpr hw), show fd (fun b => decide (w 21 b = s)) (m + 1) k j = (if k = 0 then j + 1 else fd (fun b => decide (w 21 b = s)) m (k - 1) (j + 1)) from by simp [fd, hw]]
              by_cases hk0 : k = 0
              · rw [if_pos (by rw [hk0]; rfl), if_pos hk0, mI_succ]
              · obtain ⟨k', rfl⟩ : ∃ k', k = k' + 1 := ⟨k - 1, by omega⟩
                rw [if_neg (nI_ne0 (by omega) (by omega)), if_neg hk0, pk_m1, nI_1]
                exact ih (j + 1) (by omega) k' (by omega)
            · rw [if_neg (fun z => hw (e.mp z)), show fd (fun b => decide (w 21 b = s)) (m + 1) k j = fd (fun b => decide (w 21 b = s)) m k (j + 1) from by simp [fd, hw], nI_1]
              exact ih (j + 1) (by omega) k hk
        exact loop (g 3) 0 (by omega) k hk
    · rw [h2, if_pos (by decide)]; rfl
theorem m_judge (h : RM g w τ β) (hg : Bd g w) : Ev sc (d + 1) 144 [.ref 21] (mem L σ α τ β γ) (some (.int (aJudge g w)), mem L σ α τ β γ) := by
  obtain ⟨hS, -, ⟨-, h3'⟩, h7, -, -, -, -, h22, -, ht⟩ := id hg
  have e7 : nI (g 7) = (3 : Int32) ↔ g 7 = 3 := nI_eq (b := 3) (by omega) (by decide)
  refine e_start rfl rfl rfl (q_144_0 ?_)
  rw [h.1.2.2.2.2.1]
  unfold aJudge
  by_cases hz : g 7 = 3
  · rw [if_pos (e7.mpr hz), if_pos hz]
    have loop : ∀ m j, j + m = g 22 → EvL sc d me_144 12 [some (.ref 21), some (.int (nI j))] [] (mem L σ α τ β γ) 0 0 (some (.int (mI (fd (fun t => decide (¬ w 30 t = 0)) m 0 j))), mem L σ α τ β γ) := by
      intro m
      induction m with
      | zero =>
        intro j hj
        refine q_144_12 ?_
        rw [h.1.2.2.2.2.2.2.2.2.2.2.2.1, if_neg (nI_nlt (by omega) (by omega))]
        simp only [fd]
        rw [mI_0]
      | succ m ih =>
        intro j hj
        have hf := (ht j (by omega)).2.2.2.2.2
        have e : nI (w 30 j) = (0 : Int32) ↔ w 30 j = 0 := nI_eq (b := 0) (by omega) (by decide)
        refine q_144_12 ?_
        rw [h.1.2.2.2.2.2.2.2.2.2.2.2.1, if_pos (nI_lt (by omega) (by omega)), if_neg (in_nI (by omega) (by decide)), cl_nI (by omega), (h.2.2.2.2 j (by omega)).2.2.2.2.2]
        by_cases hw : w 30 j = 0
        · rw [if_pos (e.mpr hw), show fd (fun t => decide (¬ w 30 t = 0)) (m + 1) 0 j = fd (fun t => decide (¬ w 30 t = 0)) m 0 (j + 1) from by simp [fd, hw], nI_1]
          exact ih (j + 1) (by omega)
        · rw [if_neg (fun z => hw (e.mp z)), show fd (fun t => decide (¬ w 30 t = 0)) (m + 1) 0 j = j + 1 from by simp [fd, hw], mI_succ]
    exact loop (g 22) 0 (by omega)
  · rw [if_neg (fun z => hz (e7.mp z)), if_neg hz]
theorem m_about (h : RM g w τ β) (hg : Bd g w) (x : Int32) : Ev sc (d + 3) 125 [.ref 21, .int x] (mem L σ α τ β γ) (some (.int (aAbout g w x)), mem L σ α τ β γ) := by
  obtain ⟨hS, -, ⟨-, h3'⟩, h7, -, -, -, ⟨r1, r2, r3, r4⟩, -⟩ := id hg
  have e70 : (0 : Int32) < nI (g 7) ↔ 0 < g 7 := nI_ltI (a := 0) (by decide) (by omega)
  have e72 : nI (g 7) = (2 : Int32) ↔ g 7 = 2 := nI_eq (b := 2) (by omega) (by decide)
  obtain ⟨⟨k1, k2, k3, k4, k5, k6, k7, k8, k9, k10, k11, k12, k13, k14⟩, -⟩ := id h
  have key : ∀ c : Bool, (c = true ↔ ¬ g 7 = 0) → EvL sc (d + 2) me_125 12 [some (.ref 21), some (.int x), none] [.int (bI c)] (mem L σ α τ β γ) 0 0 (some (.int (aAbout g w x)), mem L σ α τ β γ) := by
    intro c hc
    refine q_125_12 ?_
    rw [k1, k3, k5, k6, k7, k8, k9, k10, k11, k12, k13, k14, pk_sub (by omega)]
    by_cases h0 : x = 0
    · subst h0
      rw [if_pos rfl, show aAbout g w 0 = nI (g 7) from rfl]
    by_cases h1 : x = 1
    · subst h1
      rw [if_neg (show ¬ (1 : Int32) = 0 by decide), if_pos rfl, show aAbout g w 1 = (if g 7 = 2 then nI (g 9) else -1) from rfl]
      split
      · rename_i z; rw [if_pos (e72.mp z)]
      · rename_i z; rw [if_neg (fun q => z (e72.mpr q))]
    by_cases h2 : x = 2
    · subst h2
      rw [if_neg (show ¬ (2 : Int32) = 0 by decide), if_neg (show ¬ (2 : Int32) = 1 by decide), if_pos rfl, show aAbout g w 2 = (if g 7 = 0 then 0 else nI (g 8)) from rfl]
      cases c with
      | true =>
        rw [if_neg (show ¬ bI true = 0 by decide), if_neg (hc.mp rfl)]
      | false => rw [if_pos (show bI false = 0 by decide), if_pos (Decidable.byContradiction fun z => by have := hc.mpr z; cases this)]
    by_cases h3 : x = 3
    · subst h3
      rw [if_neg (show ¬ (3 : Int32) = 0 by decide), if_neg (show ¬ (3 : Int32) = 1 by decide), if_neg (show ¬ (3 : Int32) = 2 by decide), if_pos rfl, show aAbout g w 3 = (if g 7 = 0 then 0 else nI (many g w 10)) from rfl]
      cases c with
      | true =>
        rw [if_neg (show ¬ bI true = 0 by decide), if_neg (hc.mp rfl)]
        exact cli (m_many h hg (x := 10) (by omega)) (q_125_129 rfl)
      | false => rw [if_pos (show bI false = 0 by decide), if_pos (Decidable.byContradiction fun z => by have := hc.mpr z; cases this)]
    by_cases h4 : x = 4
    · subst h4
      rw [if_neg (show ¬ (4 : Int32) = 0 by decide), if_neg (show ¬ (4 : Int32) = 1 by decide), if_neg (show ¬ (4 : Int32) = 2 by decide), if_neg (show ¬ (4 : Int32) = 3 by decide), if_pos rfl, show aAbout g w 4 = nI (g 15 - g 14) from rfl]
    by_cases h5 : x = 5
    · subst h5
      rw [if_neg (show ¬ (5 : Int32) = 0 by decide), if_neg (show ¬ (5 : Int32) = 1 by decide), if_neg (show ¬ (5 : Int32) = 2 by decide), if_neg (show ¬ (5 : Int32) = 3 by decide), if_neg (show ¬ (5 : Int32) = 4 by decide), if_pos rfl, show aAbout g w 5 = mI (lp g w) from rfl]
      exact cli (m_leftPips h hg) (q_125_148 rfl)
    by_cases h6 : x = 6
    · subst h6
      rw [if_neg (show ¬ (6 : Int32) = 0 by decide), if_neg (show ¬ (6 : Int32) = 1 by decide), if_neg (show ¬ (6 : Int32) = 2 by decide), if_neg (show ¬ (6 : Int32) = 3 by decide), if_neg (show ¬ (6 : Int32) = 4 by decide), if_neg (show ¬ (6 : Int32) = 5 by decide), if_pos rfl, show aAbout g w 6 = mI (rp g w) from rfl]
      exact cli (m_rightPips h hg) (q_125_153 rfl)
    by_cases h7 : x = 7
    · subst h7
      rw [if_neg (show ¬ (7 : Int32) = 0 by decide), if_neg (show ¬ (7 : Int32) = 1 by decide), if_neg (show ¬ (7 : Int32) = 2 by decide), if_neg (show ¬ (7 : Int32) = 3 by decide), if_neg (show ¬ (7 : Int32) = 4 by decide), if_neg (show ¬ (7 : Int32) = 5 by decide), if_neg (show ¬ (7 : Int32) = 6 by decide), if_pos rfl, show aAbout g w 7 = nI (g 22) from rfl]
    by_cases h8 : x = 8
    · subst h8
      rw [if_neg (show ¬ (8 : Int32) = 0 by decide), if_neg (show ¬ (8 : Int32) = 1 by decide), if_neg (show ¬ (8 : Int32) = 2 by decide), if_neg (show ¬ (8 : Int32) = 3 by decide), if_neg (show ¬ (8 : Int32) = 4 by decide), if_neg (show ¬ (8 : Int32) = 5 by decide), if_neg (show ¬ (8 : Int32) = 6 by decide), if_neg (show ¬ (8 : Int32) = 7 by decide), if_pos rfl, show aAbout g w 8 = mI (g 23) from rfl]
    by_cases h9 : x = 9
    · subst h9
      rw [if_neg (show ¬ (9 : Int32) = 0 by decide), if_neg (show ¬ (9 : Int32) = 1 by decide), if_neg (show ¬ (9 : Int32) = 2 by decide), if_neg (show ¬ (9 : Int32) = 3 by decide), if_neg (show ¬ (9 : Int32) = 4 by decide), if_neg (show ¬ (9 : Int32) = 5 by decide), if_neg (show ¬ (9 : Int32) = 6 by decide), if_neg (show ¬ (9 : Int32) = 7 by decide), if_neg (show ¬ (9 : Int32) = 8 by decide), if_pos rfl, show aAbout g w 9 = nI (g 24) from rfl]
    by_cases h10 : x = 10
    · subst h10
      rw [if_neg (show ¬ (10 : Int32) = 0 by decide), if_neg (show ¬ (10 : Int32) = 1 by decide), if_neg (show ¬ (10 : Int32) = 2 by decide), if_neg (show ¬ (10 : Int32) = 3 by decide), if_neg (show ¬ (10 : Int32) = 4 by decide), if_neg (show ¬ (10 : Int32) = 5 by decide), if_neg (show ¬ (10 : Int32) = 6 by decide), if_neg (show ¬ (10 : Int32) = 7 by decide), if_neg (show ¬ (10 : Int32) = 8 by decide), if_neg (show ¬ (10 : Int32) = 9 by decide), if_pos rfl, show aAbout g w 10 = mI (g 11) from rfl]
    by_cases h11 : x = 11
    · subst h11
      rw [if_neg (show ¬ (11 : Int32) = 0 by decide), if_neg (show ¬ (11 : Int32) = 1 by decide), if_neg (show ¬ (11 : Int32) = 2 by decide), if_neg (show ¬ (11 : Int32) = 3 by decide), if_neg (show ¬ (11 : Int32) = 4 by decide), if_neg (show ¬ (11 : Int32) = 5 by decide), if_neg (show ¬ (11 : Int32) = 6 by decide), if_neg (show ¬ (11 : Int32) = 7 by decide), if_neg (show ¬ (11 : Int32) = 8 by decide), if_neg (show ¬ (11 : Int32) = 9 by decide), if_neg (show ¬ (11 : Int32) = 10 by decide), if_pos rfl, show aAbout g w 11 = nI (g 3) from rfl]
    by_cases h12 : x = 12
    · subst h12
      rw [if_neg (show ¬ (12 : Int32) = 0 by decide), if_neg (show ¬ (12 : Int32) = 1 by decide), if_neg (show ¬ (12 : Int32) = 2 by decide), if_neg (show ¬ (12 : Int32) = 3 by decide), if_neg (show ¬ (12 : Int32) = 4 by decide), if_neg (show ¬ (12 : Int32) = 5 by decide), if_neg (show ¬ (12 : Int32) = 6 by decide), if_neg (show ¬ (12 : Int32) = 7 by decide), if_neg (show ¬ (12 : Int32) = 8 by decide), if_neg (show ¬ (12 : Int32) = 9 by decide), if_neg (show ¬ (12 : Int32) = 10 by decide), if_neg (show ¬ (12 : Int32) = 11 by decide), if_pos rfl, show aAbout g w 12 = nI (g 1) from rfl]
    by_cases h13 : x = 13
    · subst h13
      rw [if_neg (show ¬ (13 : Int32) = 0 by decide), if_neg (show ¬ (13 : Int32) = 1 by decide), if_neg (show ¬ (13 : Int32) = 2 by decide), if_neg (show ¬ (13 : Int32) = 3 by decide), if_neg (show ¬ (13 : Int32) = 4 by decide), if_neg (show ¬ (13 : Int32) = 5 by decide), if_neg (show ¬ (13 : Int32) = 6 by decide), if_neg (show ¬ (13 : Int32) = 7 by decide), if_neg (show ¬ (13 : Int32) = 8 by decide), if_neg (show ¬ (13 : Int32) = 9 by decide), if_neg (show ¬ (13 : Int32) = 10 by decide), if_neg (show ¬ (13 : Int32) = 11 by decide), if_neg (show ¬ (13 : Int32) = 12 by decide), if_pos rfl, show aAbout g w 13 = nI (g 10) from rfl]
    rw [if_neg h0, if_neg h1, if_neg h2, if_neg h3, if_neg h4, if_neg h5, if_neg h6, if_neg h7, if_neg h8, if_neg h9, if_neg h10, if_neg h11, if_neg h12, if_neg h13]
    have e : aAbout g w x = -1 := by unfold aAbout; rw [if_neg h0, if_neg h1, if_neg h2, if_neg h3, if_neg h4, if_neg h5, if_neg h6, if_neg h7, if_neg h8, if_neg h9, if_neg h10, if_neg h11, if_neg h12, if_neg h13]
    rw [e]
  refine e_start rfl rfl rfl (q_125_0 ?_)
  rw [k5]
  by_cases hz : g 7 = 0
  · rw [if_neg (fun z => by have := e70.mp z; omega)]
    exact key false ⟨fun z => (by cases z), fun z => absurd hz z⟩
  · rw [if_pos (e70.mpr (by omega))]
    exact key true ⟨fun _ => hz, fun _ => rfl⟩
theorem RM_place (h : RM g w τ β) {b s : Nat} : RM g (tw w 21 b s) τ (va_up β 21 (upd (β 21) b (nI s))) := by
  obtain ⟨k0, k15, k16, k17, k18⟩ := h
  refine ⟨k0, ?_, ?_, ?_, ?_⟩
  · intro j hj
    by_cases e : j = b
    · simp [va_up, upd, tw, e]
    · simpa [va_up, upd, tw, e] using k15 j hj
  · intro j hj; simpa [va_up, upd, tw] using k16 j hj
  · intro j a c; simpa [va_up, upd, tw] using k17 j a c
  · intro j hj; simpa [va_up, upd, tw] using k18 j hj
theorem Bd_place (hg : Bd g w) {b s : Nat} (hs : s ≤ 11) : Bd g (tw w 21 b s) := by
  obtain ⟨h1, h2, h3, h4, h5, h6, h7, h8, h9, h10, h11⟩ := hg
  refine ⟨h1, h2, h3, h4, h5, h6, fun i hi => ?_, h8, h9, fun i a c => ?_, fun t ht => ?_⟩
  · by_cases e : i = b
    · simp [tw, va_up, e]; exact hs
    · simpa [tw, va_up, e] using h7 i hi
  · simpa [tw, va_up] using h10 i a c
  · simpa [tw, va_up] using h11 t ht
theorem m_give (h : RM g w τ β) (hg : Bd g w) (x y : Int32) : (∀ s b, x = nI s → s < 2 ^ 31 → y = nI b → b < 2 ^ 31 → giveB g w s b = false) → Ev sc (d + 2) 106 [.ref 21, .int x, .int y] (mem L σ α τ β γ) (some (.int (-1)), mem L σ α τ β γ) := by
  intro hno
  obtain ⟨hS, -, ⟨-, h3'⟩, h7, h8, -, hpl, -⟩ := id hg
  have e7 : nI (g 7) = (1 : Int32) ↔ g 7 = 1 := nI_eq (b := 1) (by omega) (by decide)
  refine e_start rfl rfl rfl (q_106_0 ?_)
  rw [h.1.2.2.2.2.1]
  by_cases a7 : g 7 = 1
  · rw [if_pos (e7.mpr a7)]
    refine cli (m_isSeat h x) (q_106_13 ?_)
    rcases bel_cases x (n := g 1) (by omega) with ⟨h1, h2⟩ | ⟨s, h1, rfl, h2, h3⟩ | ⟨k, h1, hk, rfl, h2⟩
    · rw [h2, if_pos (by decide)]
    · rw [h2, if_neg (by decide)]
      refine cli (m_isBone h y) (q_106_21 ?_)
      rcases bel_cases y (n := g 3) (by omega) with ⟨g1, g2⟩ | ⟨b, g1, rfl, g2, g3⟩ | ⟨k, g1, hk, rfl, g2⟩
      · rw [g2, if_pos (by decide)]
      · have hp := hpl b (by omega)
        have hno := hno s b rfl (by omega) rfl (by omega)
        have e10 : nI (w 21 b) = (10 : Int32) ↔ w 21 b = 10 := nI_eq (b := 10) (by omega) (by decide)
        have hm := cn_le (fun i => decide (w 21 i = s)) (g 3)
        rw [g2, if_neg (by decide), g3, if_neg (in_cl (by omega) (by decide)), h.2.1 b (by omega)]
        by_cases a10 : w 21 b = 10
        · rw [if_pos (e10.mpr a10)]
          refine cli (m_many h hg (by omega)) (q_106_40 ?_)
          have e8 : nI (many g w s) = nI (g 8) ↔ many g w s = g 8 := nI_eq (by unfold many; omega) (by omega)
          have : many g w s = g 8 := by
            unfold giveB at hno
            simpa [a7, h1, g1, a10] using hno
          rw [h.1.2.2.2.2.2.1, if_pos (e8.mpr this)]
        · rw [if_neg (fun z => a10 (e10.mp z))]
      · rw [g2, if_pos (by decide)]
    · rw [h2, if_pos (by decide)]
  · rw [if_neg (fun z => a7 (e7.mp z))]
theorem m_give_yes (h : RM g w τ β) (hg : Bd g w) {s b : Nat} (hB : giveB g w s b = true) : ∃ β', Ev sc (d + 2) 106 [.ref 21, .int (nI s), .int (nI b)] (mem L σ α τ β γ) (some (.int (nI (many g (tw w 21 b s) s))), mem L σ α τ β' γ) ∧ RM g (tw w 21 b s) τ β' := by
  obtain ⟨hS, -, ⟨-, h3'⟩, h7, h8, -, hpl, -⟩ := id hg
  unfold giveB at hB
  simp only [Bool.and_eq_true, decide_eq_true_eq] at hB
  obtain ⟨a7, h1, g1, a10, am⟩ := hB
  have hm := cn_le (fun i => decide (w 21 i = s)) (g 3)
  have e8 : nI (many g w s) = nI (g 8) ↔ many g w s = g 8 := nI_eq (by unfold many; omega) (by omega)
  refine ⟨va_up β 21 (upd (β 21) b (nI s)), e_start rfl rfl rfl (q_106_0 ?_), RM_place h⟩
  rw [h.1.2.2.2.2.1, a7, if_pos (by decide)]
  refine cli (m_isSeat h _) (q_106_13 ?_)
  rw [bel_nI (by omega) (by omega), decide_eq_true h1, if_neg (by decide)]
  refine cli (m_isBone h _) (q_106_21 ?_)
  rw [bel_nI (by omega) (by omega), decide_eq_true g1, if_neg (by decide), cl_nI (by omega), if_neg (in_cl (by omega) (by decide)), h.2.1 b (by omega), a10, if_pos (by decide)]
  refine cli (m_many h hg (by omega)) (q_106_40 ?_)
  rw [h.1.2.2.2.2.2.1, if_neg (fun z => am (e8.mp z)), cl_nI (by omega), if_neg (in_cl (by omega) (by decide))]
  exact cli (m_many (RM_place h) (Bd_place hg (by omega)) (by omega)) (q_106_61 rfl)
theorem m_begin_loop (h : RM g w τ β) (hg : Bd g w) (x : Int32) : ∀ m j, j + m = g 1 → cn (fun i => decide (¬ many g w i = g 8)) j = 0 → EvL sc (d + 1) me_108 20 [some (.ref 21), some (.int x), some (.int (nI j))] [] (mem L σ α τ β γ) 0 0 (if cn (fun i => decide (¬ many g w i = g 8)) (g 1) = 0 then (some (.int 1), mem L σ α (upd (upd (upd τ 7 2) 9 x) 10 (τ 10 + 1)) β γ) else (some (.int 0), mem L σ α τ β γ)) := by
  obtain ⟨hS, -, ⟨-, h3'⟩, h7, h8, -, hpl, -⟩ := id hg
  intro m
  induction m with
  | zero =>
    intro j hj hc
    have ej : j = g 1 := by omega
    subst ej
    refine q_108_20 ?_
    rw [h.1.1, if_neg (nI_nlt (by omega) (by omega)), if_pos hc]
  | succ m ih =>
    intro j hj hc
    have hm := cn_le (fun i => decide (w 21 i = j)) (g 3)
    have e8 : nI (many g w j) = nI (g 8) ↔ many g w j = g 8 := nI_eq (by unfold many; omega) (by omega)
    refine q_108_20 ?_
    rw [h.1.1, if_pos (nI_lt (by omega) (by omega))]
    refine cli (m_many h hg (by omega)) (q_108_33 ?_)
    rw [h.1.2.2.2.2.2.1]
    by_cases a : many g w j = g 8
    · rw [if_pos (e8.mpr a), nI_1]
      exact ih (j + 1) (by omega) (by simp only [cn, hc]; rw [if_neg (by simp [a])])
    · rw [if_neg (fun z => a (e8.mp z)), if_neg (fun z => by
        have := cn_zero.mp z j (by omega)
        simp [a] at this)]
theorem m_begin_no (h : RM g w τ β) (hg : Bd g w) (x : Int32) (hno : ∀ s, x = nI s → s < 2 ^ 31 → beginB g w s = false) : Ev sc (d + 2) 108 [.ref 21, .int x] (mem L σ α τ β γ) (some (.int 0), mem L σ α τ β γ) := by
  obtain ⟨hS, -, ⟨-, h3'⟩, h7, h8, -, hpl, -⟩ := id hg
  have e7 : nI (g 7) = (1 : Int32) ↔ g 7 = 1 := nI_eq (b := 1) (by omega) (by decide)
  refine e_start rfl rfl rfl (q_108_0 ?_)
  rw [h.1.2.2.2.2.1]
  by_cases a7 : g 7 = 1
  · rw [if_pos (e7.mpr a7)]
    refine cli (m_isSeat h x) (q_108_13 ?_)
    rcases bel_cases x (n := g 1) (by omega) with ⟨h1, h2⟩ | ⟨s, h1, rfl, h2, h3⟩ | ⟨k, h1, hk, rfl, h2⟩
    · rw [h2, if_pos (by decide)]
    · rw [h2, if_neg (by decide)]
      have hno := hno s rfl (by omega)
      unfold beginB at hno
      have hz : ¬ cn (fun i => decide (¬ many g w i = g 8)) (g 1) = 0 := by simpa [a7, h1] using hno
      have := m_begin_loop (sc := sc) (d := d) (L := L) (σ := σ) (α := α) (γ := γ) h hg (nI s) (g 1) 0 (by omega) rfl
      rw [if_neg hz] at this
      exact this
    · rw [h2, if_pos (by decide)]
  · rw [if_neg (fun z => a7 (e7.mp z))]
theorem m_begin_yes (h : RM g w τ β) (hg : Bd g w) {s : Nat} (hB : beginB g w s = true) : ∃ τ', Ev sc (d + 2) 108 [.ref 21, .int (nI s)] (mem L σ α τ β γ) (some (.int 1), mem L σ α τ' β γ) ∧ RM (bgG g s) w τ' β := by
  obtain ⟨hS, -, ⟨-, h3'⟩, h7, h8, -, hpl, -⟩ := id hg
  unfold beginB at hB
  simp only [Bool.and_eq_true, decide_eq_true_eq] at hB
  obtain ⟨a7, h1, hz⟩ := hB
  refine ⟨upd (upd (upd τ 7 2) 9 (nI s)) 10 (τ 10 + 1), e_start rfl rfl rfl (q_108_0 ?_), ?_⟩
  · rw [h.1.2.2.2.2.1, a7, if_pos (by decide)]
    refine cli (m_isSeat h _) (q_108_13 ?_)
    rw [bel_nI (by omega) (by omega), decide_eq_true h1, if_neg (by decide)]
    have := m_begin_loop (sc := sc) (d := d) (L := L) (σ := σ) (α := α) (γ := γ) h hg (nI s) (g 1) 0 (by omega) rfl
    rw [if_pos hz] at this
    exact this
  · obtain ⟨⟨k1, k2, k3, k4, k5, k6, k7, k8, k9, k10, k11, k12, k13, k14⟩, k15, k16, k17, k18⟩ := h
    have n2 : (2 : Int32) = nI 2 := rfl
    refine ⟨?_, k15, k16, fun j a c => k17 j (by simpa [bgG, va_up] using a) (by simpa [bgG, va_up] using c), fun j hj => k18 j (by simpa [bgG, va_up] using hj)⟩
    simp [upd, va_up, bgG, k1, k2, k3, k4, k6, k8, k9, k10, k11, k12, k13, k14, n2]
    exact nI_1 _
end MI
