/-! the class's static functions -/
section XA
variable {sc : Nat × (Nat → Int32)} {d : Nat} {M : dk_M}
def inB (x y : Int32) : Bool := decide (¬ y < 0) && (decide (y < 28) && !decide ((x &&& ((1 : Int32) <<< (y &&& 31))) = 0))
theorem inB_neg {x y : Int32} (h : y < 0) : inB x y = false := by simp [inB, h]
theorem inB_nI {x : Int32} {n : Nat} (h : n < 2 ^ 31) : inB x (nI n) = (decide (n < 28) && bt x n) := by
  unfold inB
  have h1 : ¬ nI n < 0 := nI_pos h
  have h2 : nI n < 28 ↔ n < 28 := nI_ltI (b := 28) h (by decide)
  by_cases hn : n < 28
  · have h3 := b_test (x := x) (n := n) (by omega)
    cases hb : bt x n with
    | false => simp [h1, h2, hn, h3.mpr hb]
    | true => simp [h1, h2, hn, h3, hb]
  · simp [h1, h2, hn]
theorem x_isIn (x y : Int32) : Ev sc (d + 1) 92 [.int x, .int y] M (some (.int (bI (inB x y))), M) := by
  refine e_start rfl rfl rfl (q_92_0 ?_)
  unfold inB
  split
  · rename_i h; simp [h, bI]
  · rename_i h
    split
    · rename_i h2
      split
      · rename_i h3; simp [h3, bI]
      · rename_i h3; simp [h, h2, h3, bI]
    · rename_i h2; simp [h2, bI]
theorem x_low {n : Nat} (h : n < 28) : Ev sc (d + 1) 90 [.int (nI n)] M (some (.int (dk_low n)), M) := by
  refine e_start rfl rfl rfl (q_90_0 ?_)
  rw [if_neg (nI_pos (by omega)), nI_lit, if_pos (nI_lt h (by decide)), if_neg (in_nI h (by decide)), cl_nI (by omega)]
theorem x_high {n : Nat} (h : n < 28) : Ev sc (d + 1) 91 [.int (nI n)] M (some (.int (dk_high n)), M) := by
  refine e_start rfl rfl rfl (q_91_0 ?_)
  rw [if_neg (nI_pos (by omega)), nI_lit, if_pos (nI_lt h (by decide)), if_neg (in_nI h (by decide)), cl_nI (by omega)]
theorem x_bitCount (x : Int32) : Ev sc (d + 1) 145 [.int x] M (some (.int (nI (cn (bt x) 32))), M) := by
  refine e_start rfl rfl rfl (q_145_0 ?_)
  rw [← bc_ok x]
  rfl
end XA
