/-! the reference: back, lay, give, begin, and the answers -/
def bkG (g : Nat → Nat) : Nat → Nat := if g 7 = 3 ∧ ¬ g 23 = 0 then va_up (va_up (va_up (va_up g 11 0) 23 0) 24 0) 7 2 else va_up (va_up (va_up g 23 0) 24 0) 7 2
def bkW (g : Nat → Nat) (w : Nat → Nat → Nat) : Nat → Nat → Nat := if g 7 = 3 ∧ ¬ g 23 = 0 then tw w 22 (g 23 - 1) (w 22 (g 23 - 1) - g 24) else w
def layG (g : Nat → Nat) (k : Nat) : Nat → Nat := va_up (va_up (va_up (va_up (va_up (va_up (va_up g 7 1) 8 k) 14 30) 15 30) 22 0) 23 0) 24 0
def layW (g : Nat → Nat) (w : Nat → Nat → Nat) : Nat → Nat → Nat := va_up w 21 (fun i => if i < g 3 then 10 else w 21 i)
section MH
variable {sc : Nat × (Nat → Int32)} {d : Nat} {L : Nat → Nat} {σ : Nat → Int32} {α : Nat → Nat → Int32} {τ : Nat → Int32} {β : Nat → Nat → Int32} {γ : Nat → Nat → Int64} {g : Nat → Nat} {w : Nat → Nat → Nat}
theorem m_back_no (h : RM g w τ β) (hg : Bd g w) (hc : g 7 < 2 ∨ g 22 = 0) : Ev sc (d + 2) 124 [.ref 21] (mem L σ α τ β γ) (some (.int 0), mem L σ α τ β γ) := by
  have h7 := hg.2.2.2.1
  have h22 := hg.2.2.2.2.2.2.2.2.1
  have e7 : nI (g 7) < (2 : Int32) ↔ g 7 < 2 := nI_ltI (b := 2) (by omega) (by decide)
  have e22 : nI (g 22) = (0 : Int32) ↔ g 22 = 0 := nI_eq (b := 0) (by omega) (by decide)
  refine e_start rfl rfl rfl (q_124_0 ?_)
  rw [h.1.2.2.2.2.1, h.1.2.2.2.2.2.2.2.2.2.2.2.1]
  by_cases hw : g 7 < 2
  · rw [if_pos (e7.mpr hw)]
  · rw [if_neg (fun z => hw (e7.mp z)), if_pos (e22.mpr (by omega))]
theorem m_back_yes (h : RM g w τ β) (hg : Bd g w) (h2 : 2 ≤ g 7) (hn : 0 < g 22) (h23 : g 23 ≤ 4) (hle : ¬ g 23 = 0 → g 24 ≤ w 22 (g 23 - 1)) (hg' : Bd (bkG g) (bkW g w)) (h14 : g 14 < g 15 ∨ w 26 (g 22 - 1) = 0) : ∃ τ' β', Ev sc (d + 2) 124 [.ref 21] (mem L σ α τ β γ) (some (.int 1), mem L σ α τ' β' γ) ∧ RM (unG (bkG g) (bkW g w)) (unW (bkG g) (bkW g w)) τ' β' := by
  have h7 := hg.2.2.2.1
  have h22 := hg.2.2.2.2.2.2.2.2.1
  have e7 : nI (g 7) < (2 : Int32) ↔ g 7 < 2 := nI_ltI (b := 2) (by omega) (by decide)
  have e73 : nI (g 7) = (3 : Int32) ↔ g 7 = 3 := nI_eq (b := 3) (by omega) (by decide)
  have e22 : nI (g 22) = (0 : Int32) ↔ g 22 = 0 := nI_eq (b := 0) (by omega) (by decide)
  have e23 : mI (g 23) = (-1 : Int32) ↔ g 23 = 0 := mI_eq_m1 (by omega)
  have n2 : (2 : Int32) = nI 2 := rfl
  obtain ⟨⟨k1, k2, k3, k4, k5, k6, k7, k8, k9, k10, k11, k12, k13, k14⟩, k15, k16, k17, k18⟩ := id h
  have keep : ∀ k, k = 14 ∨ k = 15 ∨ k = 22 → bkG g k = g k := by
    intro k hk
    unfold bkG
    rcases hk with rfl | rfl | rfl <;> split <;> simp [va_up]
  have kw26 : ∀ t, bkW g w 26 t = w 26 t := by intro t; unfold bkW; split <;> simp [tw, va_up]
  have go : ∀ τ1 β1, RM (bkG g) (bkW g w) τ1 β1 → ∃ τ' β', Clv sc (d + 1) 117 [.ref 21] (mem L σ α τ1 β1 γ) (fun M2 => EvL sc (d + 1) me_124 73 [none] [] M2 0 0 (some (.int 1), mem L σ α τ' β' γ)) ∧ RM (unG (bkG g) (bkW g w)) (unW (bkG g) (bkW g w)) τ' β' := by
    intro τ1 β1 hR1
    obtain ⟨τ2, β2, hE2, hR2, -⟩ := m_unmake (sc := sc) (d := d) (L := L) (σ := σ) (α := α) (γ := γ) hR1 hg' (by rw [keep 22 (by simp)]; exact hn) (by rw [keep 14 (by simp), keep 15 (by simp), keep 22 (by simp), kw26]; exact h14)
    exact ⟨τ2, β2, clv hE2 (q_124_73 rfl), hR2⟩
  by_cases hb : g 7 = 3 ∧ ¬ g 23 = 0
  · obtain ⟨s, hs⟩ : ∃ s, g 23 = s + 1 := ⟨g 23 - 1, by omega⟩
    have hs4 : s < 4 := by omega
    have hR1 : RM (bkG g) (bkW g w) (upd (upd (upd (upd τ 11 (-1)) 23 (-1)) 24 0) 7 2) (va_up β 22 (upd (β 22) s (β 22 s - τ 24))) := by
      unfold bkG bkW
      rw [if_pos hb, if_pos hb, hs]
      refine ⟨by simp [upd, va_up, k1, k2, k3, k4, k6, k7, k8, k10, k11, k12, n2, mI_0, nI_0], ?_, ?_, ?_, ?_⟩
      · intro j hj; simpa [va_up, upd, tw] using k15 j hj
      · intro j hj
        by_cases e : j = s
        · have := hle hb.2
          rw [hs] at this
          simp [va_up, upd, tw, e]
          rw [k16 s hs4, k14]
          exact pk_sub this
        · simpa [va_up, upd, tw, e] using k16 j hj
      · intro j a c; simpa [va_up, upd, tw] using k17 j (by simpa [va_up] using a) (by simpa [va_up] using c)
      · intro j hj; simpa [va_up, upd, tw] using k18 j (by simpa [va_up] using hj)
    obtain ⟨τ2, β2, hC, hR2⟩ := go _ _ hR1
    refine ⟨τ2, β2, e_start rfl rfl rfl (q_124_0 ?_), hR2⟩
    rw [k5, k12, if_neg (fun z => by have := e7.mp z; omega), if_neg (fun z => by have := e22.mp z; omega), if_pos (e73.mpr hb.1), k13, if_neg (fun z => hb.2 (e23.mp z)), hs, mI_succ, cl_nI (by omega), if_neg (in_cl hs4 (by decide)), if_neg (in_cl hs4 (by decide))]
    exact hC
  · have hR1 : RM (bkG g) (bkW g w) (upd (upd (upd τ 23 (-1)) 24 0) 7 2) β := by
      unfold bkG bkW
      rw [if_neg hb, if_neg hb]
      exact ⟨by simp [upd, va_up, k1, k2, k3, k4, k6, k7, k8, k9, k10, k11, k12, n2, mI_0, nI_0], k15, k16, fun j a c => k17 j (by simpa [va_up] using a) (by simpa [va_up] using c), fun j hj => k18 j (by simpa [va_up] using hj)⟩
    obtain ⟨τ2, β2, hC, hR2⟩ := go _ _ hR1
    refine ⟨τ2, β2, e_start rfl rfl rfl (q_124_0 ?_), hR2⟩
    rw [k5, k12, if_neg (fun z => by have := e7.mp z; omega), if_neg (fun z => by have := e22.mp z; omega)]
    by_cases h3 : g 7 = 3
    · rw [if_pos (e73.mpr h3), k13, if_pos (e23.mpr (Decidable.byContradiction fun z => hb ⟨h3, z⟩))]
      exact hC
    · rw [if_neg (fun z => h3 (e73.mp z))]
      exact hC
/-- may a hand of x bones be laid -/
def layB (g : Nat → Nat) (x : Int32) : Bool := decide (¬ g 7 = 2) && (decide (¬ x < 1) && (decide (¬ nI (g 3 / g 1) < x) && decide (g 11 = 0)))
theorem m_lay_no (h : RM g w τ β) (hg : Bd g w) (h11 : g 11 ≤ 4) {x : Int32} (hc : layB g x = false) : Ev sc (d + 1) 105 [.ref 21, .int x] (mem L σ α τ β γ) (some (.int (-1)), mem L σ α τ β γ) := by
  have h7 := hg.2.2.2.1
  have h1 := hg.1
  have h3 := hg.2.2.1
  have e7 : nI (g 7) = (2 : Int32) ↔ g 7 = 2 := nI_eq (b := 2) (by omega) (by decide)
  have e11 : mI (g 11) = (-1 : Int32) ↔ g 11 = 0 := mI_eq_m1 (by omega)
  refine e_start rfl rfl rfl (q_105_0 ?_)
  rw [h.1.2.2.2.2.1, h.1.1, h.1.2.2.1, h.1.2.2.2.2.2.2.2.2.1, pk_div (by omega) (by omega) (by omega)]
  unfold layB at hc
  by_cases a : g 7 = 2
  · rw [if_pos (e7.mpr a)]
  · rw [if_neg (fun z => a (e7.mp z))]
    by_cases b : x < 1
    · rw [if_pos b]
    · rw [if_neg b, if_neg (nI_ne0 (by omega) (by omega))]
      by_cases c : nI (g 3 / g 1) < x
      · rw [if_pos c]
      · rw [if_neg c]
        have : ¬ g 11 = 0 := by simp [a, b, c] at hc; exact hc
        rw [if_neg (fun z => this (e11.mp z))]
theorem m_lay_yes (h : RM g w τ β) (hg : Bd g w) {k : Nat} (h2 : ¬ g 7 = 2) (hk : 1 ≤ k) (hk2 : k ≤ g 3 / g 1) (h11 : g 11 = 0) : ∃ τ' β', Ev sc (d + 1) 105 [.ref 21, .int (nI k)] (mem L σ α τ β γ) (some (.int (nI (g 3 - k * g 1))), mem L σ α τ' β' γ) ∧ RM (layG g k) (layW g w) τ' β' := by
  have h7 := hg.2.2.2.1
  have h1 := hg.1
  have h3 := hg.2.2.1
  have hkS : k * g 1 ≤ g 3 := by
    have a := Nat.mul_le_mul_right (g 1) hk2
    have b := Nat.div_mul_le_self (g 3) (g 1)
    omega
  have hd28 : g 3 / g 1 ≤ g 3 := Nat.div_le_self _ _
  have e7 : nI (g 7) = (2 : Int32) ↔ g 7 = 2 := nI_eq (b := 2) (by omega) (by decide)
  obtain ⟨⟨k1, k2, k3, k4, k5, k6, k7, k8, k9, k10, k11, k12, k13, k14⟩, k15, k16, k17, k18⟩ := id h
  have n1 : (1 : Int32) = nI 1 := rfl
  have n30 : (30 : Int32) = nI 30 := rfl
  have n10 : (10 : Int32) = nI 10 := rfl
  have loop : ∀ m j, j + m = g 3 → ∀ β1, (∀ i, i < 28 → β1 21 i = if i < j then nI 10 else β 21 i) → (∀ c, c ≠ 21 → β1 c = β c) → ∃ β', EvL sc d me_105 48 [some (.ref 21), some (.int (nI k)), some (.int (nI j))] [] (mem L σ α (upd (upd τ 7 1) 8 (nI k)) β1 γ) 0 0 (some (.int (nI (g 3 - k * g 1))), mem L σ α (upd (upd (upd (upd (upd (upd (upd τ 7 1) 8 (nI k)) 14 30) 15 30) 22 0) 23 (-1)) 24 0) β' γ) ∧ (∀ i, i < 28 → β' 21 i = if i < g 3 then nI 10 else β 21 i) ∧ (∀ c, c ≠ 21 → β' c = β c) := by
    intro m
    induction m with
    | zero =>
      intro j hj β1 hb1 hb2
      have ej : j = g 3 := by omega
      refine ⟨β1, q_105_48 ?_, by rw [ej] at hb1; exact hb1, hb2⟩
      have t3 : (upd (upd τ 7 1) 8 (nI k)) 3 = nI (g 3) := by simp [upd, k3]
      have t1 : (upd (upd τ 7 1) 8 (nI k)) 1 = nI (g 1) := by simp [upd, k1]
      rw [t3, t1, ej, if_neg (nI_nlt (Nat.le_refl _) (by omega)), pk_mul, pk_sub hkS]
    | succ m ih =>
      intro j hj β1 hb1 hb2
      obtain ⟨β', hE, hA, hB⟩ := ih (j + 1) (by omega) (va_up β1 21 (upd (β1 21) j (nI 10))) (fun i hi => by
        by_cases e : i = j
        · simp [va_up, upd, e]
        · simp only [va_up, upd, if_true, if_neg e, hb1 i hi]
          by_cases l : i < j
          · rw [if_pos l, if_pos (by omega)]
          · rw [if_neg l, if_neg (by omega)]) (fun c hc => by simp [va_up, hc, hb2 c hc])
      refine ⟨β', q_105_48 ?_, hA, hB⟩
      have t3 : (upd (upd τ 7 1) 8 (nI k)) 3 = nI (g 3) := by simp [upd, k3]
      rw [t3, if_pos (nI_lt (by omega) (by omega)), if_neg (in_nI (by omega) (by decide)), cl_nI (by omega), nI_1, n10]
      exact hE
  obtain ⟨β', hE, hA, hB⟩ := loop (g 3) 0 (by omega) β (fun i _ => by simp) (fun _ _ => rfl)
  refine ⟨upd (upd (upd (upd (upd (upd (upd τ 7 1) 8 (nI k)) 14 30) 15 30) 22 0) 23 (-1)) 24 0, β', e_start rfl rfl rfl (q_105_0 ?_), ?_⟩
  · rw [k5, if_neg (fun z => h2 (e7.mp z)), if_neg (show ¬ nI k < 1 from nI_nlt (b := 1) hk (by omega)), k1, if_neg (nI_ne0 (by omega) (by omega)), k3, pk_div (by omega) (by omega) (by omega), if_neg (nI_nlt hk2 (by omega)), k9, h11, if_pos mI_0]
    exact hE
  · refine ⟨by simp [upd, va_up, layG, k1, k2, k3, k4, k7, k8, k9, n1, n30, mI_0, nI_0], ?_, ?_, ?_, ?_⟩
    · intro i hi
      rw [hA i hi]
      simp only [layW, va_up, if_true]
      by_cases l : i < g 3
      · rw [if_pos l, if_pos l]
      · rw [if_neg l, if_neg l]; exact k15 i hi
    · intro i hi; rw [hB 22 (by decide)]; simpa [layW, va_up] using k16 i hi
    · intro i a c; simp [layG, va_up] at a c; omega
    · intro i hi; simp [layG, va_up] at hi
end MH
