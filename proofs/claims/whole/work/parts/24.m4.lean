/-! the reference: turns are written, made and unmade -/
/-- one place of one row -/
def tw (w : Nat → Nat → Nat) (c i v : Nat) : Nat → Nat → Nat := va_up w c (va_up (w c) i v)
theorem tw_s (w : Nat → Nat → Nat) (c i v : Nat) : tw w c i v c i = v := by simp [tw, va_up]
theorem tw_c (w : Nat → Nat → Nat) {c c' : Nat} (i v : Nat) (h : c' ≠ c) : tw w c i v c' = w c' := by simp [tw, va_up, h]
theorem tw_i (w : Nat → Nat → Nat) (c : Nat) {i j : Nat} (v : Nat) (h : j ≠ i) : tw w c i v c j = w c j := by simp [tw, va_up, h]
def wrG (g : Nat → Nat) : Nat → Nat := va_up (va_up g 22 (g 22 + 1)) 9 ((g 9 + 1) % g 1)
def wrW (g : Nat → Nat) (w : Nat → Nat → Nat) (bc ec f : Nat) : Nat → Nat → Nat :=
  tw (tw (tw (tw (tw (tw w 25 (g 22) (g 9)) 26 (g 22) bc) 27 (g 22) ec) 28 (g 22) (lp g w)) 29 (g 22) (rp g w)) 30 (g 22) f
section ME
variable {sc : Nat × (Nat → Int32)} {d : Nat} {L : Nat → Nat} {σ : Nat → Int32} {α : Nat → Nat → Int32} {τ : Nat → Int32} {β : Nat → Nat → Int32} {γ : Nat → Nat → Int64} {g : Nat → Nat} {w : Nat → Nat → Nat}
/-- rows of scratch: order, may, room, other -/
theorem RM_upB (h : RM g w τ β) {k : Nat} {f : Nat → Int32} (hk : 31 ≤ k) : RM g w τ (va_up β k f) := by
  have u : ∀ j, j < 31 → va_up β k f j = β j := fun j hj => by simp [va_up]; omega
  obtain ⟨h1, h2, h3, h4, h5⟩ := h
  refine ⟨h1, ?_, ?_, ?_, ?_⟩
  · intro i hi; rw [u _ (by omega)]; exact h2 i hi
  · intro i hi; rw [u _ (by omega)]; exact h3 i hi
  · intro i a b; rw [u _ (by omega), u _ (by omega)]; exact h4 i a b
  · intro i hi; rw [u _ (by omega), u _ (by omega), u _ (by omega), u _ (by omega), u _ (by omega), u _ (by omega)]; exact h5 i hi
/-- a row of turns is written at the place behind them -/
theorem RM_upT (h : RM g w τ β) (hg : Bd g w) {k : Nat} {v : Int32} (hk : k = 25 ∨ k = 26 ∨ k = 27 ∨ k = 28 ∨ k = 29 ∨ k = 30) : RM g w τ (va_up β k (upd (β k) (g 22) v)) := by
  obtain ⟨h1, h2, h3, h4, h5⟩ := h
  have u : ∀ j, j < 25 → va_up β k (upd (β k) (g 22) v) j = β j := fun j hj => by simp [va_up]; omega
  have u2 : ∀ j i, i < g 22 → va_up β k (upd (β k) (g 22) v) j i = β j i := fun j i hi => by
    have : ¬ i = g 22 := by omega
    by_cases e : j = k
    · simp [va_up, e, upd, this]
    · simp [va_up, e]
  refine ⟨h1, ?_, ?_, ?_, ?_⟩
  · intro i hi; rw [u _ (by omega)]; exact h2 i hi
  · intro i hi; rw [u _ (by omega)]; exact h3 i hi
  · intro i a b; rw [u _ (by omega), u _ (by omega)]; exact h4 i a b
  · intro i hi; rw [u2 _ _ hi, u2 _ _ hi, u2 _ _ hi, u2 _ _ hi, u2 _ _ hi, u2 _ _ hi]; exact h5 i hi
theorem m_write (h : RM g w τ β) (hg : Bd g w) {bc ec : Nat} (hb : bc ≤ 28) (he : ec ≤ 2) (f : Bool) : ∃ τ' β', Ev sc (d + 3) 115 [.ref 21, .int (mI bc), .int (mI ec), .int (bI f)] (mem L σ α τ β γ) (none, mem L σ α τ' β' γ) ∧ RM (wrG g) (wrW g w bc ec (if f then 1 else 0)) τ' β' ∧ (∀ k, 26 ≤ k → τ' k = τ k) ∧ ∀ c, 31 ≤ c → β' c = β c := by
  obtain ⟨hS, -, ⟨-, h3⟩, -, -, h9, -, ⟨r1, r2, r3, r4⟩, h22, -, -⟩ := id hg
  have hc : (nI (g 22)).toNatClampNeg = g 22 := cl_nI (by omega)
  have hin : ¬ (nI (g 22) < 0 ∨ 200 ≤ g 22) := in_cl (by omega) (by decide)
  have e22 := h.1.2.2.2.2.2.2.2.2.2.2.2.1
  have e9 := h.1.2.2.2.2.2.2.1
  have e1 := h.1.1
  have hA := RM_upT (RM_upT (RM_upT h hg (k := 25) (v := τ 9) (Or.inl rfl)) hg (k := 26) (v := mI bc) (Or.inr (Or.inl rfl))) hg (k := 27) (v := mI ec) (Or.inr (Or.inr (Or.inl rfl)))
  have hB := RM_upT hA hg (k := 28) (v := mI (lp g w)) (Or.inr (Or.inr (Or.inr (Or.inl rfl))))
  have hm : nI (g 9) + 1 - (nI (g 9) + 1) / nI (g 1) * nI (g 1) = nI ((g 9 + 1) % g 1) := by
    rw [nI_1]; exact pk_rem (by omega) (by omega) (by omega)
  have hE : Ev sc (d + 3) 115 [.ref 21, .int (mI bc), .int (mI ec), .int (bI f)] (mem L σ α τ β γ) (none, mem L σ α (upd (upd τ 22 (nI (g 22) + 1)) 9 (nI ((g 9 + 1) % g 1))) (va_up (va_up (va_up (va_up (va_up (va_up β 25 (upd (β 25) (g 22) (nI (g 9)))) 26 (upd (β 26) (g 22) (mI bc))) 27 (upd (β 27) (g 22) (mI ec))) 28 (upd (β 28) (g 22) (mI (lp g w)))) 29 (upd (β 29) (g 22) (mI (rp g w)))) 30 (upd (β 30) (g 22) (bI f))) γ) := by
    refine e_start rfl rfl rfl (q_115_0 ?_)
    rw [e22, hc, if_neg hin, if_neg hin, if_neg hin]
    refine cli (m_leftPips hA hg) (q_115_45 ?_)
    rw [hc, if_neg hin, e22]
    refine cli (m_rightPips hB hg) (q_115_58 ?_)
    rw [e22, hc, if_neg hin, if_neg hin, e1, if_neg (nI_ne0 (by omega) (by omega)), e9, hm, bI_nar]
    rfl
  refine ⟨_, _, hE, ?_, ?_, ?_⟩
  · obtain ⟨⟨k1, k2, k3, k4, k5, k6, k7, k8, k9, k10, k11, k12, k13, k14⟩, k15, k16, k17, k18⟩ := h
    refine ⟨?_, ?_, ?_, ?_, ?_⟩
    · simp only [upd, wrG, va_up]
      simp [k1, k2, k3, k4, k5, k6, k8, k9, k10, k11, k13, k14]
      exact nI_1 _
    · intro i hi
      simp only [va_up, wrW, tw]
      simpa using k15 i hi
    · intro i hi
      simp only [va_up, wrW, tw]
      simpa using k16 i hi
    · intro i a b
      have a : g 14 ≤ i := by simpa [wrG, va_up] using a
      have b : i < g 15 := by simpa [wrG, va_up] using b
      simp only [va_up, wrW, tw]
      simpa using k17 i a b
    · intro i hi
      have hi : i < g 22 + 1 := by simpa [wrG, va_up] using hi
      simp only [va_up, wrW, tw, upd]
      by_cases e : i = g 22
      · subst e
        have n1 : nI 1 = 1 := rfl
        cases f <;> simp [upd, va_up, bI, nI_0, n1]
      · have := k18 i (by omega)
        simpa [upd, va_up, e] using this
  · intro k hk
    simp only [upd]
    rw [if_neg (by omega), if_neg (by omega)]
  · intro c hc
    simp only [va_up]
    rw [if_neg (by omega), if_neg (by omega), if_neg (by omega), if_neg (by omega), if_neg (by omega), if_neg (by omega)]
/-- how a play lies: pips at its left and right -/
def plL (g : Nat → Nat) (w : Nat → Nat → Nat) (b e : Nat) : Nat := if g 14 = g 15 then lo b else if e = 0 then (if hi b + 1 = lp g w then lo b else hi b) else (if lo b + 1 = rp g w then lo b else hi b)
def plR (g : Nat → Nat) (w : Nat → Nat → Nat) (b e : Nat) : Nat := if g 14 = g 15 then hi b else if e = 0 then (if hi b + 1 = lp g w then hi b else lo b) else (if lo b + 1 = rp g w then hi b else lo b)
def mpG (g : Nat → Nat) (e : Nat) : Nat → Nat := if ¬ g 14 = g 15 ∧ e = 0 then va_up (wrG g) 14 (g 14 - 1) else va_up (wrG g) 15 (g 15 + 1)
def mpI (g : Nat → Nat) (e : Nat) : Nat := if ¬ g 14 = g 15 ∧ e = 0 then g 14 - 1 else g 15
def mpE (g : Nat → Nat) (e : Nat) : Nat := if g 14 = g 15 then 0 else e
def mpW (g : Nat → Nat) (w : Nat → Nat → Nat) (b e : Nat) : Nat → Nat → Nat :=
  tw (tw (tw (wrW g w (b + 1) (mpE g e + 1) 0) 21 b 11) 23 (mpI g e) (plL g w b e)) 24 (mpI g e) (plR g w b e)
end ME
