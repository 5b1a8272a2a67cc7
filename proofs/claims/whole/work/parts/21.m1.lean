/-! the reference's functions that change nothing -/
section MA
variable {sc : Nat × (Nat → Int32)} {d : Nat} {M : dk_M}
theorem hi_it : ∀ b, b < 28 → ∀ j, j ≤ hi b → ((nI b < (((nI j + (1 : Int32)) * (nI j + (2 : Int32))) / (2 : Int32))) ↔ j = hi b) := by
  have : ∀ b, b < 28 → ∀ j, j < 7 → j ≤ hi b → ((nI b < (((nI j + (1 : Int32)) * (nI j + (2 : Int32))) / (2 : Int32))) ↔ j = hi b) := by decide +kernel
  intro b hb j hj
  have := (lo_le b hb).2
  exact (by assumption : ∀ b, b < 28 → ∀ j, j < 7 → j ≤ hi b → ((nI b < (((nI j + (1 : Int32)) * (nI j + (2 : Int32))) / (2 : Int32))) ↔ j = hi b)) b hb j (by omega) hj
theorem m_high {b : Nat} (hb : b < 28) : Ev sc (d + 1) 97 [.int (nI b)] M (some (.int (nI (hi b))), M) := by
  have key : ∀ k j, j + k = hi b → EvL sc d me_97 2 [some (.int (nI b)), some (.int (nI j))] [] M 0 0 (some (.int (nI (hi b))), M) := by
    intro k
    induction k with
    | zero =>
      intro j hj
      have e : j = hi b := by omega
      refine q_97_2 ?_
      rw [if_pos ((hi_it b hb j (by omega)).mpr e), e]
    | succ k ih =>
      intro j hj
      refine q_97_2 ?_
      rw [if_neg (fun z => by have := (hi_it b hb j (by omega)).mp z; omega), nI_1]
      exact ih (j + 1) (by omega)
  exact e_start rfl rfl rfl (q_97_0 (key (hi b) 0 (by omega)))
theorem m_low {b : Nat} (hb : b < 28) : Ev sc (d + 2) 98 [.int (nI b)] M (some (.int (nI (lo b))), M) := by
  refine e_start rfl rfl rfl (q_98_0 (cli (m_high hb) (q_98_5 (cli (m_high hb) (q_98_9 ?_)))))
  have : ∀ b, b < 28 → nI (lo b) = nI b - ((nI (hi b) * (nI (hi b) + (1 : Int32))) / (2 : Int32)) := by decide +kernel
  rw [this b hb]
theorem m_weight {b : Nat} (hb : b < 28) : Ev sc (d + 3) 99 [.int (nI b)] M (some (.int (nI (wt b))), M) := by
  refine e_start rfl rfl rfl (q_99_0 (cli (m_high hb) (q_99_4 (cli (m_low hb) (q_99_8 ?_)))))
  rw [nI_add]
  rfl
theorem m_has {b : Nat} (hb : b < 28) (x : Int32) : Ev sc (d + 3) 100 [.int (nI b), .int x] M (some (.int (bI (hasI b x))), M) := by
  refine e_start rfl rfl rfl (q_100_0 (cli (m_high hb) (q_100_4 ?_)))
  unfold hasI
  split
  · rename_i h; simp [h, bI]
  · rename_i h
    refine cli (m_low hb) (q_100_12 ?_)
    split
    · rename_i h2; simp [h2, bI]
    · rename_i h2; simp [h, h2, bI]
end MA
section MB
variable {sc : Nat × (Nat → Int32)} {d : Nat} {L : Nat → Nat} {σ : Nat → Int32} {α : Nat → Nat → Int32} {τ : Nat → Int32} {β : Nat → Nat → Int32} {γ : Nat → Nat → Int64} {g : Nat → Nat} {w : Nat → Nat → Nat}
/-- x is a number below n -/
def bel (x : Int32) (n : Nat) : Bool := decide (¬ x < 0) && decide (x < nI n)
theorem bel_nI {k n : Nat} (hk : k < 2 ^ 31) (hn : n < 2 ^ 31) : bel (nI k) n = decide (k < n) := by
  unfold bel
  simp [nI_pos hk, nI_ltI hk hn]
theorem bel_neg {x : Int32} {n : Nat} (h : x < 0) : bel x n = false := by simp [bel, h]
theorem bel_of {x : Int32} {n : Nat} (hn : n < 2 ^ 31) (h : bel x n = true) : ∃ k, k < n ∧ x = nI k := by
  rcases any_nI x with h1 | ⟨k, hk, rfl⟩
  · rw [bel_neg h1] at h; cases h
  · rw [bel_nI hk hn] at h
    exact ⟨k, of_decide_eq_true h, rfl⟩
theorem m_isBone (h : RM g w τ β) (x : Int32) : Ev sc (d + 1) 101 [.ref 21, .int x] (mem L σ α τ β γ) (some (.int (bI (bel x (g 3)))), mem L σ α τ β γ) := by
  refine e_start rfl rfl rfl (q_101_0 ?_)
  rw [h.1.2.2.1]
  unfold bel
  split
  · rename_i h1; simp [h1, bI]
  · rename_i h1
    split
    · rename_i h2; simp [h1, h2, bI]
    · rename_i h2; simp [h2, bI]
theorem m_isSeat (h : RM g w τ β) (x : Int32) : Ev sc (d + 1) 102 [.ref 21, .int x] (mem L σ α τ β γ) (some (.int (bI (bel x (g 1)))), mem L σ α τ β γ) := by
  refine e_start rfl rfl rfl (q_102_0 ?_)
  rw [h.1.1]
  unfold bel
  split
  · rename_i h1; simp [h1, bI]
  · rename_i h1
    split
    · rename_i h2; simp [h1, h2, bI]
    · rename_i h2; simp [h2, bI]
theorem m_sideOf (h : RM g w τ β) (hg : Bd g w) {s : Nat} (hs : s < 100) : Ev sc (d + 1) 103 [.ref 21, .int (nI s)] (mem L σ α τ β γ) (some (.int (nI (side (g 1) s))), mem L σ α τ β γ) := by
  refine e_start rfl rfl rfl (q_103_0 ?_)
  obtain ⟨⟨h1, h2⟩, -⟩ := hg
  rw [h.1.1]
  have e4 : nI (g 1) = (4 : Int32) ↔ g 1 = 4 := nI_eq (b := 4) (by omega) (by decide)
  unfold side
  by_cases hg4 : g 1 = 4
  · rw [if_pos (e4.mpr hg4), if_pos hg4]
    have := pk_rem (a := s) (d := 2) (by omega) (by omega) (by omega)
    rw [← this]
    rfl
  · rw [if_neg (fun z => hg4 (e4.mp z)), if_neg hg4]
theorem m_many (h : RM g w τ β) (hg : Bd g w) {x : Nat} (hx : x < 100) : Ev sc (d + 1) 104 [.ref 21, .int (nI x)] (mem L σ α τ β γ) (some (.int (nI (many g w x))), mem L σ α τ β γ) := by
  obtain ⟨-, -, ⟨-, h3⟩, -, -, -, hpl, -⟩ := hg
  have key : ∀ k j, j + k = g 3 → EvL sc d me_104 4 [some (.ref 21), some (.int (nI x)), some (.int (nI (cn (fun b => decide (w 21 b = x)) j))), some (.int (nI j))] [] (mem L σ α τ β γ) 0 0 (some (.int (nI (many g w x))), mem L σ α τ β γ) := by
    intro k
    induction k with
    | zero =>
      intro j hj
      refine q_104_4 ?_
      rw [h.1.2.2.1, if_neg (nI_nlt (by omega) (by omega)), show j = g 3 by omega]
      rfl
    | succ k ih =>
      intro j hj
      refine q_104_4 ?_
      rw [h.1.2.2.1, if_pos (nI_lt (by omega) (by omega)), if_neg (in_nI (by omega) (by decide)), cl_nI (by omega), h.2.1 j (by omega)]
      have hp := hpl j (by omega)
      have e : nI (w 21 j) = nI x ↔ w 21 j = x := nI_eq (by omega) (by omega)
      have ih := ih (j + 1) (by omega)
      simp only [cn] at ih
      by_cases hw : w 21 j = x
      · rw [if_pos (e.mpr hw), nI_1, nI_1]
        simpa [hw] using ih
      · rw [if_neg (fun z => hw (e.mp z)), nI_1, Int32.add_zero]
        simpa [hw] using ih
  exact e_start rfl rfl rfl (q_104_0 (key (g 3) 0 (by omega)))
theorem m_isEmpty (h : RM g w τ β) (hg : Bd g w) : Ev sc (d + 1) 109 [.ref 21] (mem L σ α τ β γ) (some (.int (bI (decide (g 14 = g 15)))), mem L σ α τ β γ) := by
  refine e_start rfl rfl rfl (q_109_0 ?_)
  obtain ⟨-, -, -, -, -, -, -, ⟨h1, h2, h3, h4⟩, -⟩ := hg
  rw [h.1.2.2.2.2.2.2.2.2.2.1, h.1.2.2.2.2.2.2.2.2.2.2.1]
  have e : nI (g 14) = nI (g 15) ↔ g 14 = g 15 := nI_eq (by omega) (by omega)
  by_cases hw : g 14 = g 15
  · rw [if_pos (e.mpr hw)]; simp [hw, bI]
  · rw [if_neg (fun z => hw (e.mp z))]; simp [hw, bI]
theorem m_leftPips (h : RM g w τ β) (hg : Bd g w) : Ev sc (d + 2) 110 [.ref 21] (mem L σ α τ β γ) (some (.int (mI (lp g w))), mem L σ α τ β γ) := by
  refine e_start rfl rfl rfl (q_110_0 (cli (m_isEmpty h hg) (q_110_4 ?_)))
  obtain ⟨-, -, -, -, -, -, -, ⟨h1, h2, h3, h4⟩, -⟩ := hg
  unfold lp
  by_cases hw : g 14 = g 15
  · rw [if_neg (by simp [hw, bI]), if_pos hw, mI_0]
  · rw [if_pos (by simp [hw, bI]), if_neg hw, mI_succ, h.1.2.2.2.2.2.2.2.2.2.1, if_neg (in_nI (by omega) (by decide)), cl_nI (by omega), (h.2.2.2.1 (g 14) (by omega) (by omega)).1]
theorem m_rightPips (h : RM g w τ β) (hg : Bd g w) : Ev sc (d + 2) 111 [.ref 21] (mem L σ α τ β γ) (some (.int (mI (rp g w))), mem L σ α τ β γ) := by
  refine e_start rfl rfl rfl (q_111_0 (cli (m_isEmpty h hg) (q_111_4 ?_)))
  obtain ⟨-, -, -, -, -, -, -, ⟨h1, h2, h3, h4⟩, -⟩ := hg
  unfold rp
  by_cases hw : g 14 = g 15
  · rw [if_neg (by simp [hw, bI]), if_pos hw, mI_0]
  · have e : nI (g 15) - 1 = nI (g 15 - 1) := pk_sub (b := 1) (by omega)
    rw [if_pos (by simp [hw, bI]), if_neg hw, mI_succ, h.1.2.2.2.2.2.2.2.2.2.2.1, e, if_neg (in_nI (by omega) (by decide)), cl_nI (by omega), (h.2.2.2.1 (g 15 - 1) (by omega) (by omega)).2]
theorem lp_le (hg : Bd g w) : lp g w ≤ 7 ∧ rp g w ≤ 7 := by
  obtain ⟨-, -, -, -, -, -, -, ⟨h1, h2, h3, h4⟩, -, h5, -⟩ := hg
  unfold lp rp
  by_cases hw : g 14 = g 15
  · rw [if_pos hw, if_pos hw]; omega
  · rw [if_neg hw, if_neg hw]
    have a := (h5 (g 14) (by omega) (by omega)).1
    have b := (h5 (g 15 - 1) (by omega) (by omega)).2
    omega
theorem m_fits (h : RM g w τ β) (hg : Bd g w) {b : Nat} (hb : b < 28) (e : Int32) : Ev sc (d + 4) 112 [.ref 21, .int (nI b), .int e] (mem L σ α τ β γ) (some (.int (bI (fitE g w b e))), mem L σ α τ β γ) := by
  have hl := lp_le hg
  refine e_start rfl rfl rfl (q_112_0 (cli (m_isEmpty h hg) (q_112_4 ?_)))
  have hr : ∀ {r}, r = (some (Value.int (bI (hs b (rp g w)))), mem L σ α τ β γ) → EvL sc (d + 3) me_112 32 [none, none, none] [.int (mI (rp g w)), .int (nI b)] (mem L σ α τ β γ) 0 0 r := by
    intro r hr
    refine q_112_32 (cli (m_has hb _) (q_112_35 ?_))
    rw [hasI_mI hb (by omega)]
    cases hh : hs b (rp g w) <;> simp [bI, hr, hh]
  unfold fitE
  by_cases hw : g 14 = g 15
  · rw [if_neg (by simp [hw, bI])]; simp [hw, bI]
  · rw [if_pos (by simp [hw, bI])]
    by_cases h0 : e = 0
    · subst h0
      rw [if_pos rfl]
      refine cli (m_leftPips h hg) (q_112_16 (cli (m_has hb _) (q_112_19 ?_)))
      rw [hasI_mI hb (by omega)]
      cases hh : hs b (lp g w) <;> simp [bI, hw]
    · rw [if_neg h0]
      by_cases h1 : e = 1
      · subst h1
        rw [if_pos rfl]
        exact cli (m_rightPips h hg) (hr (by simp [hw]))
      · rw [if_neg h1]; simp [hw, h0, h1, bI]
theorem m_canPlay (h : RM g w τ β) (hg : Bd g w) {b : Nat} (hb : b < 2 ^ 31) (e : Int32) : Ev sc (d + 5) 113 [.ref 21, .int (nI b), .int e] (mem L σ α τ β γ) (some (.int (bI (canE g w b e))), mem L σ α τ β γ) := by
  obtain ⟨hS, -, ⟨-, h3⟩, h7, -, h9, hpl, -⟩ := id hg
  refine e_start rfl rfl rfl (q_113_0 ?_)
  rw [h.1.2.2.2.2.1]
  have e7 : nI (g 7) = (2 : Int32) ↔ g 7 = 2 := nI_eq (b := 2) (by omega) (by decide)
  unfold canE
  by_cases hw : g 7 = 2
  · rw [if_pos (e7.mpr hw)]
    refine cli (m_isBone h _) (q_113_13 ?_)
    rw [bel_nI hb (by omega)]
    by_cases hbb : b < g 3
    · rw [if_neg (by simp [hbb, bI]), if_neg (in_nI (by omega) (by decide)), cl_nI (by omega), h.2.1 b (by omega), h.1.2.2.2.2.2.2.1]
      have hp := hpl b (by omega)
      have e9 : nI (w 21 b) = nI (g 9) ↔ w 21 b = g 9 := nI_eq (by omega) (by omega)
      by_cases hq : w 21 b = g 9
      · rw [if_pos (e9.mpr hq)]
        refine cli (m_fits h hg (by omega) e) (q_113_35 ?_)
        cases hf : fitE g w b e <;> simp [bI, hw, hbb, hq]
      · rw [if_neg (fun z => hq (e9.mp z))]; simp [hq, bI]
    · rw [if_pos (by simp [hbb, bI])]; simp [hbb, bI]
  · rw [if_neg (fun z => hw (e7.mp z))]; simp [hw, bI]
theorem m_canPlay_neg (h : RM g w τ β) (hg : Bd g w) {x : Int32} (hx : x < 0) (e : Int32) : Ev sc (d + 5) 113 [.ref 21, .int x, .int e] (mem L σ α τ β γ) (some (.int 0), mem L σ α τ β γ) := by
  refine e_start rfl rfl rfl (q_113_0 ?_)
  split
  · refine cli (m_isBone h _) (q_113_13 ?_)
    rw [bel_neg hx, bI_f, if_pos rfl]
  · rfl
end MB
