/-! the class: weights -/
section XC
variable {sc : Nat × (Nat → Int32)} {d : Nat} {L : Nat → Nat} {σ : Nat → Int32} {α : Nat → Nat → Int32} {τ : Nat → Int32} {β : Nat → Nat → Int32} {γ : Nat → Nat → Int64} {g : Nat → Nat} {w : Nat → Nat → Nat} {M : dk_M}
theorem sm_succ (f : Nat → Nat) (n : Nat) : sm f (n + 1) = sm f n + f n := rfl
theorem x_weightOf (x : Int32) : Ev sc (d + 2) 94 [.int x] M (some (.int (nI (sm (fun b => if bt x b then wt b else 0) 28))), M) := by
  have n28 : (28 : Int32) = nI 28 := rfl
  have key : ∀ m j, j + m = 28 → EvL sc (d + 1) me_94 4 [some (.int x), some (.int (nI (sm (fun b => if bt x b then wt b else 0) j))), some (.int (nI j))] [] M 0 0 (some (.int (nI (sm (fun b => if bt x b then wt b else 0) 28))), M) := by
    intro m
    induction m with
    | zero =>
      intro j hj
      refine q_94_4 ?_
      rw [n28, if_neg (nI_nlt (by omega) (by omega)), show j = 28 by omega]
    | succ m ih =>
      intro j hj
      refine q_94_4 ?_
      rw [n28, if_pos (nI_lt (by omega) (by omega))]
      refine cli (x_isIn _ _) (q_94_15 ?_)
      rw [inB_nI (by omega), decide_eq_true (show j < 28 by omega)]
      have ih := ih (j + 1) (by omega)
      rw [sm_succ _ j] at ih
      cases hb : bt x j with
      | false =>
        rw [if_pos (by decide), nI_1]
        simpa [hb] using ih
      | true =>
        rw [if_neg (by decide)]
        refine cli (x_low (by omega)) (q_94_23 (cli (x_high (by omega)) (q_94_27 ?_)))
        rw [lo_ok j (by omega), hi_ok j (by omega), nI_add, nI_add, nI_1]
        have e : sm (fun b => if bt x b then wt b else 0) j + (lo j + hi j) = sm (fun b => if bt x b then wt b else 0) j + wt j := by unfold wt; omega
        rw [e]
        simpa [hb] using ih
  exact e_start rfl rfl rfl (q_94_0 (key 28 0 (by omega)))
theorem x_sideWeight (h : RT g w L σ α) (hB : Bs g w) (h7 : 1 ≤ g 7) {x : Nat} (hx : x < 100) : Ev sc (d + 3) 35 [.ref 1, .int (nI x)] (mem L σ α τ β γ) (some (.int (nI (own g w x))), mem L σ α τ β γ) := by
  obtain ⟨⟨h1, -, h3, -, -⟩, -⟩ := id hB
  have key : ∀ m j, j + m = g 1 → ∀ v : Int32, (∀ i, i < 32 → bt v i = (decide (i < g 3) && (decide (w 21 i < j) && decide (side (g 1) (w 21 i) = x)))) → EvL sc (d + 2) me_35 4 [some (.ref 1), some (.int (nI x)), some (.int v), some (.int (nI j))] [] (mem L σ α τ β γ) 0 0 (some (.int (nI (own g w x))), mem L σ α τ β γ) := by
    intro m
    induction m with
    | zero =>
      intro j hj v hv
      have ej : j = g 1 := by omega
      subst ej
      refine q_35_4 ?_
      rw [h.1.1, nI_lit, if_neg (nI_nlt (by omega) (by omega))]
      refine cli (x_weightOf v) (q_35_41 ?_)
      have e : sm (fun b => if bt v b then wt b else 0) 28 = own g w x := by
        unfold own
        have ext : ∀ m n (f : Nat → Nat), n ≤ m → (∀ i, n ≤ i → i < m → f i = 0) → sm f m = sm f n := by
          intro m n f
          induction m with
          | zero => intro a _; rw [show n = 0 by omega]
          | succ m ihm =>
            intro a b
            by_cases q : n = m + 1
            · rw [q]
            · simp only [sm]
              rw [ihm (by omega) (fun i c e => b i c (by omega)), b m (by omega) (by omega)]
              rfl
        rw [ext 28 (g 3) _ h3.2 (fun i a b => by rw [hv i (by omega)]; simp; omega)]
        refine sm_cong (fun i hi => ?_)
        rw [hv i (by omega)]
        by_cases q1 : w 21 i < g 1
        · by_cases q2 : side (g 1) (w 21 i) = x
          · simp [hi, q1, q2]
          · simp [q2]
        · simp [q1]
      rw [e]
    | succ m ih =>
      intro j hj v hv
      have hsl := side_lt h1 (show j < g 1 by omega)
      have hs4 := sides_le h1
      have es : nI (side (g 1) j) = nI x ↔ side (g 1) j = x := nI_eq (by omega) (by omega)
      refine q_35_4 ?_
      rw [h.1.1, nI_lit, if_pos (nI_lt (by omega) (by omega))]
      refine cli (x_sideOf h hB (by omega)) (q_35_18 ?_)
      by_cases q : side (g 1) j = x
      · rw [if_pos (es.mpr q), h.1.1, if_neg (in_nI (by omega) (by omega)), cl_nI (by omega), nI_1]
        refine ih (j + 1) (by omega) _ (fun i hi => ?_)
        rw [b_or, hv i hi, h.2.2.2.1 j (by omega) i hi]
        by_cases e : w 21 i = j
        · simp [e, q, h7]
        · by_cases l : w 21 i < j
          · simp [l, show w 21 i < j + 1 by omega, e]
          · simp [l, show ¬ w 21 i < j + 1 by omega, e]
      · rw [if_neg (fun z => q (es.mp z)), nI_1]
        refine ih (j + 1) (by omega) _ (fun i hi => ?_)
        rw [hv i hi]
        by_cases e : w 21 i = j
        · simp [e, q]
        · by_cases l : w 21 i < j
          · simp [l, show w 21 i < j + 1 by omega]
          · simp [l, show ¬ w 21 i < j + 1 by omega]
  exact e_start rfl rfl rfl (q_35_0 (key (g 1) 0 (by omega) 0 (fun i hi => by rw [b_0]; simp)))
theorem x_othersWeight (h : RT g w L σ α) (hB : Bs g w) (h7 : 1 ≤ g 7) {x : Nat} (hx : x < 100) : Ev sc (d + 4) 36 [.ref 1, .int (nI x)] (mem L σ α τ β γ) (some (.int (nI (oth g w x))), mem L σ α τ β γ) := by
  obtain ⟨⟨h1, -, h3, -, -⟩, -⟩ := id hB
  have hs4 := sides_le h1
  rw [oth_sum h1]
  have key : ∀ m j, j + m = sides (g 1) → EvL sc (d + 3) me_36 4 [some (.ref 1), some (.int (nI x)), some (.int (nI (sm (fun s => if s = x then 0 else own g w s) j))), some (.int (nI j))] [] (mem L σ α τ β γ) 0 0 (some (.int (nI (sm (fun s => if s = x then 0 else own g w s) (sides (g 1))))), mem L σ α τ β γ) := by
    intro m
    induction m with
    | zero =>
      intro j hj
      refine q_36_4 (cli (x_sides h hB) (q_36_9 ?_))
      rw [if_neg (nI_nlt (by omega) (by omega)), show j = sides (g 1) by omega]
    | succ m ih =>
      intro j hj
      have ih := ih (j + 1) (by omega)
      simp only [sm] at ih
      have es : nI j = nI x ↔ j = x := nI_eq (by omega) (by omega)
      refine q_36_4 (cli (x_sides h hB) (q_36_9 ?_))
      rw [if_pos (nI_lt (by omega) (by omega))]
      by_cases q : j = x
      · rw [if_pos (es.mpr q), nI_1]
        simpa [q] using ih
      · rw [if_neg (fun z => q (es.mp z))]
        refine cli (x_sideWeight h hB h7 (by omega)) (q_36_23 ?_)
        rw [nI_add, nI_1]
        simpa [q] using ih
  exact e_start rfl rfl rfl (q_36_0 (key (sides (g 1)) 0 (by omega)))
end XC
