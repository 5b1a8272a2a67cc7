/-! the law's own code, checked -/
def lw_rk (a n : Nat) : Bool := (List.range' a n).all (fun pc => match mc_151 pc with
  | none => true
  | some r => dk_rok "DominoParlourLaw" false 4 code pc r)
theorem lw_rk_0 : lw_rk 0 70 = true := by decide +kernel
theorem lw_rk_70 : lw_rk 70 70 = true := by decide +kernel
theorem lw_rk_140 : lw_rk 140 70 = true := by decide +kernel
theorem lw_rk_210 : lw_rk 210 70 = true := by decide +kernel
theorem lw_rk_280 : lw_rk 280 70 = true := by decide +kernel
theorem lw_rk_350 : lw_rk 350 70 = true := by decide +kernel
theorem lw_rk_420 : lw_rk 420 70 = true := by decide +kernel
theorem lw_rk_490 : lw_rk 490 70 = true := by decide +kernel
theorem lw_rk_560 : lw_rk 560 70 = true := by decide +kernel
theorem lw_rk_630 : lw_rk 630 70 = true := by decide +kernel
theorem lw_rows : ∀ pc r, (fun pc => cond (Nat.blt pc 700) (me_151.1 pc) none) pc = some r → dk_rok "DominoParlourLaw" false 4 code pc r = true := by
  intro pc r hr
  dsimp only at hr
  have key : ∀ a n, lw_rk a n = true → a ≤ pc → pc < a + n → mc_151 pc = some r → dk_rok "DominoParlourLaw" false 4 code pc r = true := by
    intro a n h h1 h2 h3
    have := List.all_eq_true.mp h pc (List.mem_range'_1.mpr ⟨h1, h2⟩)
    rw [h3] at this
    exact this
  cases hb : Nat.blt pc 700 with
  | false => rw [hb] at hr; cases hr
  | true =>
    rw [hb] at hr
    have hr : mc_151 pc = some r := hr
    have hlt : pc < 700 := Nat.blt_eq.mp hb
    by_cases h0 : pc < 70
    · exact key 0 70 lw_rk_0 (by omega) (by omega) hr
    by_cases h70 : pc < 140
    · exact key 70 70 lw_rk_70 (by omega) (by omega) hr
    by_cases h140 : pc < 210
    · exact key 140 70 lw_rk_140 (by omega) (by omega) hr
    by_cases h210 : pc < 280
    · exact key 210 70 lw_rk_210 (by omega) (by omega) hr
    by_cases h280 : pc < 350
    · exact key 280 70 lw_rk_280 (by omega) (by omega) hr
    by_cases h350 : pc < 420
    · exact key 350 70 lw_rk_350 (by omega) (by omega) hr
    by_cases h420 : pc < 490
    · exact key 420 70 lw_rk_420 (by omega) (by omega) hr
    by_cases h490 : pc < 560
    · exact key 490 70 lw_rk_490 (by omega) (by omega) hr
    by_cases h560 : pc < 630
    · exact key 560 70 lw_rk_560 (by omega) (by omega) hr
    exact key 630 70 lw_rk_630 (by omega) (by omega) hr
